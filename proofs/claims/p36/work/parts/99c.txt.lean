/-! THE TEXT: its tokens. -/
section
variable {l : Launch} {g : EG}
section
variable (B : Nat → Nat) (n : Nat)
def isBl (c : Nat) : Bool := c == 32 || c == 10
def isLe (c : Nat) : Bool := Nat.ble 97 c && Nat.ble c 122
def isDi (c : Nat) : Bool := Nat.ble 48 c && Nat.ble c 57
def tSk : Nat → Nat → Nat
  | 0, p => p
  | f + 1, p => if p < n ∧ isBl (B p) = true then tSk f (p + 1) else p
/-- where the next token starts -/
def tS (p : Nat) : Nat := tSk B n (n - p) p
/-- the same kind of sign -/
def tCl (t e : Nat) : Bool := (isLe (B t) && isLe (B e)) || (isDi (B t) && isDi (B e))
def tEk (t : Nat) : Nat → Nat → Nat
  | 0, e => e
  | f + 1, e => if e < n ∧ tCl B t e = true then tEk t f (e + 1) else e
/-- behind the token that starts at t -/
def tE (t : Nat) : Nat := if t < n then tEk B n t (n - (t + 1)) (t + 1) else t + 1
/-- the start of the token behind the one at t -/
def nx (t : Nat) : Nat := tS B n (tE B n t)
def tLe (t : Nat) : Bool := Nat.blt t n && isLe (B t)
def tDi (t : Nat) : Bool := Nat.blt t n && isDi (B t)
def tIs (t c : Nat) : Bool := Nat.blt t n && B t == c
/-- the number of the digits from t on -/
def tNk (t : Nat) : Nat → Nat
  | 0 => 0
  | k + 1 => 10 * tNk t k + (B (t + k) - 48)
def tN (t : Nat) : Nat := tNk B t (tE B n t - t)
def okN (t : Nat) : Bool := tDi B n t && Nat.ble (tE B n t - t) 4
/-- the word of the letters from t on, in one number -/
def tHk (t : Nat) : Nat → Nat
  | 0 => 0
  | k + 1 => 32 * tHk t k + (B (t + k) - 96)
def tH (t : Nat) : Nat := if tLe B n t = true ∧ tE B n t - t ≤ 8 then tHk B t (tE B n t - t) else 0
end
section
variable {B : Nat → Nat} {n : Nat}
theorem tSk_le : ∀ f p, p ≤ tSk B n f p ∧ (p ≤ n → tSk B n f p ≤ n)
  | 0, p => ⟨Nat.le_refl _, fun h => h⟩
  | f + 1, p => by
    unfold tSk
    split
    · rename_i c
      have := tSk_le f (p + 1)
      exact ⟨by omega, fun _ => this.2 (by omega)⟩
    · exact ⟨Nat.le_refl _, fun h => h⟩
theorem tSk_stop : ∀ f p, n - p ≤ f → ¬ (tSk B n f p < n ∧ isBl (B (tSk B n f p)) = true)
  | 0, p, h => by unfold tSk; omega
  | f + 1, p, h => by
    unfold tSk
    split
    · exact tSk_stop f (p + 1) (by omega)
    · assumption
theorem tS_le {p : Nat} : p ≤ tS B n p ∧ (p ≤ n → tS B n p ≤ n) := tSk_le _ _
theorem tS_stop {p : Nat} : ¬ (tS B n p < n ∧ isBl (B (tS B n p)) = true) := tSk_stop _ _ (Nat.le_refl _)
theorem tS_bl {p : Nat} (h : p < n) (hb : isBl (B p) = true) : tS B n p = tS B n (p + 1) := by
  unfold tS
  rw [show n - p = (n - (p + 1)) + 1 by omega]
  show (if p < n ∧ isBl (B p) = true then _ else p) = _
  rw [if_pos ⟨h, hb⟩]
theorem tS_no {p : Nat} (h : ¬ (p < n ∧ isBl (B p) = true)) : tS B n p = p := by
  unfold tS
  cases n - p with
  | zero => rfl
  | succ f => show (if p < n ∧ isBl (B p) = true then _ else p) = _; rw [if_neg h]
theorem tS_id {p : Nat} : tS B n (tS B n p) = tS B n p := tS_no tS_stop
theorem tEk_le {t : Nat} : ∀ f e, e ≤ tEk B n t f e ∧ (e ≤ n → tEk B n t f e ≤ n)
  | 0, e => ⟨Nat.le_refl _, fun h => h⟩
  | f + 1, e => by
    unfold tEk
    split
    · rename_i c
      have := tEk_le (t := t) f (e + 1)
      exact ⟨by omega, fun _ => this.2 (by omega)⟩
    · exact ⟨Nat.le_refl _, fun h => h⟩
theorem tE_le {t : Nat} (h : t < n) : t + 1 ≤ tE B n t ∧ tE B n t ≤ n := by
  unfold tE
  rw [if_pos h]
  have := tEk_le (B := B) (n := n) (t := t) (n - (t + 1)) (t + 1)
  exact ⟨this.1, this.2 (by omega)⟩
theorem tE_n {t : Nat} (h : ¬ t < n) : tE B n t = t + 1 := by unfold tE; rw [if_neg h]
theorem nx_le {t : Nat} (h : t < n) : t + 1 ≤ nx B n t ∧ nx B n t ≤ n := by
  have a := tE_le (B := B) h
  have b := tS_le (B := B) (n := n) (p := tE B n t)
  unfold nx
  exact ⟨by omega, b.2 a.2⟩
/-- the token's signs are of its kind -/
theorem tEk_cl {t : Nat} : ∀ f e j, e ≤ j → j < tEk B n t f e → tCl B t j = true
  | 0, e, j, h1, h2 => by unfold tEk at h2; omega
  | f + 1, e, j, h1, h2 => by
    unfold tEk at h2
    split at h2
    · rename_i c
      by_cases q : j = e
      · subst q; exact c.2
      · exact tEk_cl f (e + 1) j (by omega) h2
    · omega
theorem isLeDi {c : Nat} (h : isLe c = true) : isDi c = false := by
  unfold isLe at h
  cases k : isDi c with
  | false => rfl
  | true =>
    unfold isDi at k
    simp at h k
    omega
theorem tLe_in {t j : Nat} (h : tLe B n t = true) (h1 : t ≤ j) (h2 : j < tE B n t) : isLe (B j) = true := by
  unfold tLe at h
  simp only [Bool.and_eq_true, Nat.blt_eq] at h
  by_cases q : j = t
  · subst q; exact h.2
  · unfold tE at h2
    rw [if_pos h.1] at h2
    have := tEk_cl _ _ j (by omega) h2
    unfold tCl at this
    rw [isLeDi h.2] at this
    simp at this
    exact this.2
theorem tDi_in {t j : Nat} (h : tDi B n t = true) (h1 : t ≤ j) (h2 : j < tE B n t) : isDi (B j) = true := by
  unfold tDi at h
  simp only [Bool.and_eq_true, Nat.blt_eq] at h
  by_cases q : j = t
  · subst q; exact h.2
  · unfold tE at h2
    rw [if_pos h.1] at h2
    have := tEk_cl _ _ j (by omega) h2
    unfold tCl at this
    simp only [Bool.or_eq_true, Bool.and_eq_true] at this
    rcases this with k | k
    · have := isLeDi k.1; rw [h.2] at this; cases this
    · exact k.2
theorem tEk_stop {t : Nat} : ∀ f e, n - e ≤ f → ¬ (tEk B n t f e < n ∧ tCl B t (tEk B n t f e) = true)
  | 0, e, h => by unfold tEk; omega
  | f + 1, e, h => by
    unfold tEk
    split
    · exact tEk_stop f (e + 1) (by omega)
    · assumption
theorem tEk_id {t : Nat} : ∀ f e, n - e ≤ f → tEk B n t f e = tEk B n t (n - e) e
  | 0, e, h => by rw [show n - e = 0 by omega]
  | f + 1, e, h => by
    by_cases c : e < n ∧ tCl B t e = true
    · rw [show n - e = (n - (e + 1)) + 1 by omega]
      show (if e < n ∧ tCl B t e = true then _ else e) = (if e < n ∧ tCl B t e = true then _ else e)
      rw [if_pos c, if_pos c]
      exact tEk_id f (e + 1) (by omega)
    · have a : tEk B n t (f + 1) e = e := if_neg c
      have b : tEk B n t (n - e) e = e := by
        cases n - e with
        | zero => rfl
        | succ k => exact if_neg c
      rw [a, b]
theorem tEk_st {t e : Nat} (h : e < n) (hc : tCl B t e = true) : tEk B n t (n - e) e = tEk B n t (n - (e + 1)) (e + 1) := by
  rw [show n - e = (n - (e + 1)) + 1 by omega]
  show (if e < n ∧ tCl B t e = true then _ else e) = _
  rw [if_pos ⟨h, hc⟩]
theorem tEk_no {t e : Nat} (h : ¬ (e < n ∧ tCl B t e = true)) : tEk B n t (n - e) e = e := by
  cases n - e with
  | zero => rfl
  | succ k => exact if_neg h
theorem tNk_lt {t : Nat} : ∀ k, (∀ j, j < k → isDi (B (t + j)) = true) → tNk B t k < 10 ^ k
  | 0, _ => by simp [tNk]
  | k + 1, h => by
    have ih := tNk_lt (t := t) k (fun j hj => h j (by omega))
    have hk := h k (by omega)
    unfold isDi at hk
    simp at hk
    show 10 * tNk B t k + (B (t + k) - 48) < 10 ^ (k + 1)
    rw [Nat.pow_succ]
    omega
theorem tN_lt {t : Nat} (h : okN B n t = true) : tN B n t < 10000 := by
  unfold okN at h
  simp only [Bool.and_eq_true, Nat.ble_eq] at h
  have := tNk_lt (B := B) (t := t) (tE B n t - t) (fun j hj => tDi_in h.1 (by omega) (by omega))
  have p : 10 ^ (tE B n t - t) ≤ 10 ^ 4 := Nat.pow_le_pow_right (by omega) h.2
  unfold tN
  omega
theorem tHk_lt {t : Nat} : ∀ k, (∀ j, j < k → isLe (B (t + j)) = true) → tHk B t k < 32 ^ k
  | 0, _ => by simp [tHk]
  | k + 1, h => by
    have ih := tHk_lt (t := t) k (fun j hj => h j (by omega))
    have hk := h k (by omega)
    unfold isLe at hk
    simp at hk
    show 32 * tHk B t k + (B (t + k) - 96) < 32 ^ (k + 1)
    rw [Nat.pow_succ]
    omega
/-- a word's number -/
def wHk : List Nat → Nat
  | [] => 0
  | c :: r => 32 * wHk r + (c - 96)
/-- the token at t is this word (its letters backward) -/
def isW (B : Nat → Nat) (n t : Nat) (w : List Nat) : Prop := tLe B n t = true ∧ tE B n t - t = w.length ∧ ∀ k, k < w.length → B (t + k) = w.getD (w.length - 1 - k) 0
theorem tHk_w {t : Nat} : ∀ (w : List Nat) k, (∀ j, j < k → isLe (B (t + j)) = true) → (∀ c ∈ w, isLe c = true) → (tHk B t k = wHk w ↔ (k = w.length ∧ ∀ j, j < k → B (t + j) = w.getD (w.length - 1 - j) 0))
  | [], 0, _, _ => by simp [tHk, wHk]
  | [], k + 1, h, _ => by
    have hk := h k (by omega)
    unfold isLe at hk
    simp at hk
    have : tHk B t (k + 1) = 32 * tHk B t k + (B (t + k) - 96) := rfl
    simp [this, wHk]
    omega
  | c :: r, 0, _, hw => by
    have hc := hw c List.mem_cons_self
    unfold isLe at hc
    simp at hc
    simp [tHk, wHk]
    omega
  | c :: r, k + 1, h, hw => by
    have hk := h k (by omega)
    have hc := hw c List.mem_cons_self
    unfold isLe at hk hc
    simp at hk hc
    have ih := tHk_w (t := t) r k (fun j hj => h j (by omega)) (fun c' h' => hw c' (List.mem_cons_of_mem _ h'))
    have e1 : tHk B t (k + 1) = wHk (c :: r) ↔ (tHk B t k = wHk r ∧ B (t + k) = c) := by
      show 32 * tHk B t k + (B (t + k) - 96) = 32 * wHk r + (c - 96) ↔ _
      omega
    rw [e1, ih]
    simp only [List.length_cons]
    constructor
    · rintro ⟨⟨h1, h2⟩, h3⟩
      refine ⟨by omega, fun j hj => ?_⟩
      by_cases q : j = k
      · subst q
        rw [h3, show r.length + 1 - 1 - j = 0 by omega]; rfl
      · rw [h2 j (by omega), show r.length + 1 - 1 - j = (r.length - 1 - j) + 1 by omega]; rfl
    · rintro ⟨h1, h2⟩
      have h1' : k = r.length := by omega
      refine ⟨⟨h1', fun j hj => ?_⟩, ?_⟩
      · rw [h2 j (by omega), show r.length + 1 - 1 - j = (r.length - 1 - j) + 1 by omega]; rfl
      · rw [h2 k (by omega), show r.length + 1 - 1 - k = 0 by omega]; rfl
theorem tH_w {t : Nat} {w : List Nat} (hw : ∀ c ∈ w, isLe c = true) (h8 : w.length ≤ 8) (h0 : w ≠ []) : tH B n t = wHk w ↔ isW B n t w := by
  have p0 : ¬ wHk w = 0 := by
    cases w with
    | nil => exact absurd rfl h0
    | cons c r =>
      have hc := hw c List.mem_cons_self
      unfold isLe at hc
      simp at hc
      show ¬ 32 * wHk r + (c - 96) = 0
      omega
  unfold tH isW
  by_cases c : tLe B n t = true
  · have key := tHk_w (t := t) w (tE B n t - t) (fun j hj => tLe_in c (by omega) (by omega)) hw
    by_cases c8 : tE B n t - t ≤ 8
    · rw [if_pos ⟨c, c8⟩, key]
      constructor
      · rintro ⟨a, b⟩
        exact ⟨c, a, fun k hk => b k (by omega)⟩
      · rintro ⟨_, a, b⟩
        exact ⟨a, fun k hk => b k (by omega)⟩
    · rw [if_neg (fun k => c8 k.2)]
      constructor
      · intro k; exact absurd k.symm p0
      · rintro ⟨_, a, _⟩; omega
  · rw [if_neg (fun k => c k.1)]
    constructor
    · intro k; exact absurd k.symm p0
    · rintro ⟨a, _⟩; exact absurd a c
end
end
