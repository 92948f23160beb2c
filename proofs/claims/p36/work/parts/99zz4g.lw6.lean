/-! THE LAW, 6: what is typed, token by token. -/
section
variable {B : Nat → Nat} {n : Nat}
/-- the text from p to its end -/
def SF (B : Nat → Nat) (n p : Nat) (L : List Nat) : Prop := p + L.length = n ∧ ∀ i, i < L.length → B (p + i) = L.getD i 0
theorem SF.hd {p c : Nat} {L : List Nat} (h : SF B n p (c :: L)) : p < n ∧ B p = c ∧ SF B n (p + 1) L := by
  obtain ⟨h1, h2⟩ := h
  have hl : (c :: L).length = L.length + 1 := rfl
  refine ⟨by omega, h2 0 (by omega), by omega, fun i hi => ?_⟩
  rw [show p + 1 + i = p + (i + 1) by omega]
  exact h2 (i + 1) (by omega)
theorem SF.nil {p : Nat} (h : SF B n p []) : p = n := h.1
theorem SF.app {p : Nat} {w L : List Nat} (h : SF B n p (w ++ L)) : SF B n (p + w.length) L := by
  obtain ⟨h1, h2⟩ := h
  rw [List.length_append] at h1 h2
  refine ⟨by omega, fun i hi => ?_⟩
  rw [Nat.add_assoc, h2 (w.length + i) (by omega)]
  exact getD_app2
theorem SF.lt {p : Nat} {w L : List Nat} (h : SF B n p (w ++ L)) : p + w.length ≤ n := by
  have := h.1
  rw [List.length_append] at this
  omega
theorem SF.at {p i : Nat} {w L : List Nat} (h : SF B n p (w ++ L)) (hi : i < w.length) : B (p + i) = w.getD i 0 := by
  rw [h.2 i (by rw [List.length_append]; omega)]
  exact getD_app1 hi
theorem tS_32 {p : Nat} {L : List Nat} (h : SF B n p (32 :: L)) : tS B n p = tS B n (p + 1) := tS_bl h.hd.1 (by rw [h.hd.2.1]; rfl)
theorem tS_c {p c : Nat} {L : List Nat} (h : SF B n p (c :: L)) (hc : isBl c = false) : tS B n p = p := tS_no (fun z => by rw [h.hd.2.1, hc] at z; exact absurd z.2 (by decide))
theorem tS_e {p : Nat} (h : SF B n p []) : tS B n p = p := tS_no (fun z => by have := h.nil; omega)
theorem tEk_run {t : Nat} {q : Nat → Bool} (hq : ∀ e, tCl B t e = q (B e)) : ∀ (w L : List Nat) (e : Nat), SF B n e (w ++ L) → (∀ c ∈ w, q c = true) → (L = [] ∨ ∃ c L', L = c :: L' ∧ q c = false) → tEk B n t (n - e) e = e + w.length
  | [], L, e, h, _, hL => by
    rcases hL with rfl | ⟨c, L', rfl, hc⟩
    · have := h.nil
      rw [show n - e = 0 by omega]
      rfl
    · have h' : SF B n e (c :: L') := h
      obtain ⟨h1, h2, -⟩ := h'.hd
      rw [show n - e = (n - e - 1) + 1 by omega]
      show (if e < n ∧ tCl B t e = true then _ else e) = _
      rw [if_neg (fun z => by rw [hq, h2, hc] at z; exact absurd z.2 (by decide))]
      rfl
  | a :: w, L, e, h, hw, hL => by
    have h' : SF B n e (a :: (w ++ L)) := h
    obtain ⟨h1, h2, h3⟩ := h'.hd
    rw [show n - e = (n - (e + 1)) + 1 by omega]
    show (if e < n ∧ tCl B t e = true then tEk B n t (n - (e + 1)) (e + 1) else e) = _
    rw [if_pos ⟨h1, by rw [hq, h2]; exact hw a List.mem_cons_self⟩, tEk_run hq w L (e + 1) h3 (fun c hc => hw c (List.mem_cons_of_mem _ hc)) hL]
    show e + 1 + w.length = e + (w.length + 1)
    omega
/-- a word's number -/
def hH (w : List Nat) : Nat → Nat
  | 0 => 0
  | k + 1 => 32 * hH w k + (w.getD k 0 - 96)
def nH (w : List Nat) : Nat → Nat
  | 0 => 0
  | k + 1 => 10 * nH w k + (w.getD k 0 - 48)
theorem tHk_v {p : Nat} {w L : List Nat} (h : SF B n p (w ++ L)) : ∀ k, k ≤ w.length → tHk B p k = hH w k
  | 0, _ => rfl
  | k + 1, hk => by
    show 32 * tHk B p k + (B (p + k) - 96) = 32 * hH w k + (w.getD k 0 - 96)
    rw [tHk_v h k (by omega), h.at (by omega)]
theorem tNk_w {p : Nat} {w L : List Nat} (h : SF B n p (w ++ L)) : ∀ k, k ≤ w.length → tNk B p k = nH w k
  | 0, _ => rfl
  | k + 1, hk => by
    show 10 * tNk B p k + (B (p + k) - 48) = 10 * nH w k + (w.getD k 0 - 48)
    rw [tNk_w h k (by omega), h.at (by omega)]
theorem isLD {c : Nat} (h : isLe c = true) : isDi c = false := by
  unfold isLe at h
  unfold isDi
  rw [Bool.and_eq_true, Nat.ble_eq, Nat.ble_eq] at h
  cases hd : (Nat.ble 48 c && Nat.ble c 57) with
  | false => rfl
  | true =>
    rw [Bool.and_eq_true, Nat.ble_eq, Nat.ble_eq] at hd
    omega
theorem isDL {c : Nat} (h : isDi c = true) : isLe c = false := by
  cases hd : isLe c with
  | false => rfl
  | true => rw [isLD hd] at h; exact absurd h (by decide)
/-- no letter, no digit comes next -/
def noL (q : Nat → Bool) (L : List Nat) : Prop := L = [] ∨ ∃ c L', L = c :: L' ∧ q c = false
theorem tE_w {p a : Nat} {w L : List Nat} (h : SF B n p ((a :: w) ++ L)) (hw : ∀ c ∈ a :: w, isLe c = true) (hL : noL isLe L) : tE B n p = p + (a :: w).length := by
  have h' : SF B n p (a :: (w ++ L)) := h
  obtain ⟨h1, h2, h3⟩ := h'.hd
  have ha := hw a List.mem_cons_self
  unfold tE
  rw [if_pos h1, tEk_run (q := isLe) (fun e => by unfold tCl; rw [h2, ha, isLD ha]; simp) w L (p + 1) h3 (fun c hc => hw c (List.mem_cons_of_mem _ hc)) hL]
  show p + 1 + w.length = p + (w.length + 1)
  omega
theorem tE_d {p a : Nat} {w L : List Nat} (h : SF B n p ((a :: w) ++ L)) (hw : ∀ c ∈ a :: w, isDi c = true) (hL : noL isDi L) : tE B n p = p + (a :: w).length := by
  have h' : SF B n p (a :: (w ++ L)) := h
  obtain ⟨h1, h2, h3⟩ := h'.hd
  have ha := hw a List.mem_cons_self
  unfold tE
  rw [if_pos h1, tEk_run (q := isDi) (fun e => by unfold tCl; rw [h2, ha, isDL ha]; simp) w L (p + 1) h3 (fun c hc => hw c (List.mem_cons_of_mem _ hc)) hL]
  show p + 1 + w.length = p + (w.length + 1)
  omega
/-- a sign that is no letter and no digit is a token by itself -/
theorem tE_s {p c : Nat} {L : List Nat} (h : SF B n p (c :: L)) (h1 : isLe c = false) (h2 : isDi c = false) : tE B n p = p + 1 := by
  obtain ⟨a1, a2, a3⟩ := h.hd
  unfold tE
  rw [if_pos a1]
  have e : ∀ f, tEk B n p f (p + 1) = p + 1 := fun f => by
    cases f with
    | zero => rfl
    | succ f =>
      show (if p + 1 < n ∧ tCl B p (p + 1) = true then _ else p + 1) = _
      rw [if_neg (fun z => by have := z.2; unfold tCl at this; rw [a2, h1, h2] at this; simp at this)]
  exact e _
/-- a word is read -/
theorem W_tok {p a : Nat} {w L : List Nat} (h : SF B n p ((a :: w) ++ L)) (hw : ∀ c ∈ a :: w, isLe c = true) (hl : (a :: w).length ≤ 8) (hL : noL isLe L) : tH B n p = hH (a :: w) (a :: w).length ∧ nx B n p = tS B n (p + (a :: w).length) ∧ SF B n (p + (a :: w).length) L ∧ (∀ c, isLe c = false → tIs B n p c = false) ∧ okN B n p = false := by
  have h' : SF B n p (a :: (w ++ L)) := h
  obtain ⟨h1, h2, h3⟩ := h'.hd
  have ha := hw a List.mem_cons_self
  have e := tE_w h hw hL
  have hLe : tLe B n p = true := by unfold tLe; rw [h2, ha, (Nat.blt_eq).mpr h1]; rfl
  refine ⟨?_, by unfold nx; rw [e], h.app, fun c hc => ?_, ?_⟩
  · unfold tH
    rw [e, Nat.add_sub_cancel_left, if_pos ⟨hLe, hl⟩]
    exact tHk_v h _ (Nat.le_refl _)
  · unfold tIs
    rw [h2]
    cases hb : (a == c) with
    | false => simp
    | true => rw [beq_iff_eq] at hb; rw [hb, hc] at ha; exact absurd ha (by decide)
  · unfold okN tDi
    rw [h2, isLD ha]; simp
/-- a number is read -/
theorem N_tok {p a : Nat} {w L : List Nat} (h : SF B n p ((a :: w) ++ L)) (hw : ∀ c ∈ a :: w, isDi c = true) (hl : (a :: w).length ≤ 4) (hL : noL isDi L) : okN B n p = true ∧ tN B n p = nH (a :: w) (a :: w).length ∧ nx B n p = tS B n (p + (a :: w).length) ∧ SF B n (p + (a :: w).length) L ∧ (∀ c, isDi c = false → tIs B n p c = false) ∧ tH B n p = 0 := by
  have h' : SF B n p (a :: (w ++ L)) := h
  obtain ⟨h1, h2, h3⟩ := h'.hd
  have ha := hw a List.mem_cons_self
  have e := tE_d h hw hL
  have hDi : tDi B n p = true := by unfold tDi; rw [h2, ha, (Nat.blt_eq).mpr h1]; rfl
  refine ⟨?_, ?_, by unfold nx; rw [e], h.app, fun c hc => ?_, ?_⟩
  · unfold okN
    rw [hDi, e, Nat.add_sub_cancel_left, Nat.ble_eq_true_of_le hl]; rfl
  · unfold tN
    rw [e, Nat.add_sub_cancel_left]
    exact tNk_w h _ (Nat.le_refl _)
  · unfold tIs
    rw [h2]
    cases hb : (a == c) with
    | false => simp
    | true => rw [beq_iff_eq] at hb; rw [hb, hc] at ha; exact absurd ha (by decide)
  · unfold tH tLe
    rw [h2, isDL ha]; simp
/-- a sign is read -/
theorem S_tok {p c : Nat} {L : List Nat} (h : SF B n p (c :: L)) (h1 : isLe c = false) (h2 : isDi c = false) : nx B n p = tS B n (p + 1) ∧ SF B n (p + 1) L ∧ tIs B n p c = true ∧ (∀ d, ¬ d = c → tIs B n p d = false) ∧ tH B n p = 0 := by
  obtain ⟨a1, a2, a3⟩ := h.hd
  refine ⟨by unfold nx; rw [tE_s h h1 h2], a3, by unfold tIs; rw [a2, (Nat.blt_eq).mpr a1]; simp, fun d hd => ?_, ?_⟩
  · unfold tIs
    rw [a2]
    cases hb : (c == d) with
    | false => simp
    | true => rw [beq_iff_eq] at hb; exact absurd hb.symm hd
  · unfold tH tLe
    rw [a2, h1]; simp
theorem dgs_di {v : Nat} (hv : v < 10000) : ∀ c ∈ dgs v, isDi c = true := by
  intro c hc
  unfold isDi
  rw [Bool.and_eq_true, Nat.ble_eq, Nat.ble_eq]
  unfold dgs at hc
  (repeat' split at hc) <;> simp only [List.mem_cons, List.not_mem_nil, or_false] at hc <;> omega
theorem dgs_n {v : Nat} (hv : v < 10000) : nH (dgs v) (dgs v).length = v := by
  unfold dgs
  split
  · show 10 * 0 + (48 + v - 48) = v; omega
  · split
    · show 10 * (10 * 0 + (48 + v / 10 - 48)) + (48 + v % 10 - 48) = v; omega
    · split
      · show 10 * (10 * (10 * 0 + (48 + v / 100 - 48)) + (48 + v / 10 % 10 - 48)) + (48 + v % 10 - 48) = v; omega
      · show 10 * (10 * (10 * (10 * 0 + (48 + v / 1000 - 48)) + (48 + v / 100 % 10 - 48)) + (48 + v / 10 % 10 - 48)) + (48 + v % 10 - 48) = v; omega
/-- a number below 10000, as it is drawn -/
theorem D_tok {p v : Nat} {L : List Nat} (hv : v < 10000) (h : SF B n p (dgs v ++ L)) (hL : noL isDi L) : okN B n p = true ∧ tN B n p = v ∧ nx B n p = tS B n (p + (dgs v).length) ∧ SF B n (p + (dgs v).length) L ∧ (∀ c, isDi c = false → tIs B n p c = false) ∧ tH B n p = 0 ∧ tS B n p = p := by
  have h1 := dgs_di hv
  have h2 := dgs_n hv
  have h3 := dgs_len (v := v)
  cases hd : dgs v with
  | nil => rw [hd] at h3; exact absurd h3.1 (by decide)
  | cons a w =>
    rw [hd] at h h1 h2 h3
    obtain ⟨q1, q2, q3, q4, q5, q6⟩ := N_tok h h1 h3.2 hL
    refine ⟨q1, q2.trans h2, q3, q4, q5, q6, ?_⟩
    have h' : SF B n p (a :: (w ++ L)) := h
    refine tS_c h' ?_
    have ha := h1 a List.mem_cons_self
    unfold isDi at ha
    rw [Bool.and_eq_true, Nat.ble_eq, Nat.ble_eq] at ha
    unfold isBl
    rw [Bool.or_eq_false_iff]
    exact ⟨by rw [beq_eq_false_iff_ne]; omega, by rw [beq_eq_false_iff_ne]; omega⟩
/-- a number in its bounds -/
theorem pN_ok {p v lo hi : Nat} {L : List Nat} (hv : v < 10000) (h : SF B n p (dgs v ++ L)) (hL : noL isDi L) (h1 : lo ≤ v) (h2 : v ≤ hi) (h3 : hi < 2 ^ 31) : pN B n (nI lo) (nI hi) p = .inr (v, tS B n (p + (dgs v).length)) := by
  obtain ⟨q1, q2, q3, -⟩ := D_tok hv h hL
  unfold pN
  rw [if_pos q1, q2, if_pos ⟨nI_le h1 (by omega), nI_le h2 h3⟩, q3]
end
