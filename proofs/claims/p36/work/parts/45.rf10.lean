/-! THE REFERENCE: what it answers of agendas. -/
section
variable {l : Launch} {g : EG}
/-- how many of the first k hold -/
def agCt (P : AG → Bool) (A : List AG) : Nat → Nat
  | 0 => 0
  | k + 1 => if P (agG A k) then agCt P A k + 1 else agCt P A k
def agFf (f : Int32) : List AG → Nat
  | [] => 0
  | x :: t => if x.1 < f then agFf f t + 1 else 0
def isFf (A : List AG) (f : Int32) (r : Nat) : Prop := r ≤ A.length ∧ (∀ j, j < r → (agG A j).1 < f) ∧ (r < A.length → ¬ (agG A r).1 < f)
theorem agFf_is (f : Int32) : ∀ A, isFf A f (agFf f A)
  | [] => ⟨Nat.le_refl _, fun j h => absurd h (by simp [agFf]), fun h => absurd h (by simp)⟩
  | x :: t => by
    obtain ⟨h1, h2, h3⟩ := agFf_is f t
    by_cases hx : x.1 < f
    · have e : agFf f (x :: t) = agFf f t + 1 := if_pos hx
      rw [e]
      refine ⟨by simp only [List.length_cons]; omega, fun j hj => ?_, fun hj => ?_⟩
      · cases j with
        | zero => exact hx
        | succ j => exact h2 j (by omega)
      · exact h3 (by simp only [List.length_cons] at hj; omega)
    · have e : agFf f (x :: t) = 0 := if_neg hx
      rw [e]
      exact ⟨Nat.zero_le _, fun j hj => absurd hj (by omega), fun _ => hx⟩
theorem isFf.u {A : List AG} {f : Int32} {r r' : Nat} (h : isFf A f r) (h' : isFf A f r') : r = r' := by
  obtain ⟨h1, h2, h3⟩ := h
  obtain ⟨h1', h2', h3'⟩ := h'
  rcases Nat.lt_trichotomy r r' with h | h | h
  · exact absurd (h2' r h) (h3 (by omega))
  · exact h
  · exact absurd (h2 r' h) (h3' (by omega))
/-- pairs -/
def agCI (P : Nat → Nat → Bool) (k : Nat) : Nat → Nat
  | 0 => 0
  | j + 1 => if P j k then agCI P k j + 1 else agCI P k j
def agCO (P : Nat → Nat → Bool) : Nat → Nat
  | 0 => 0
  | k + 1 => agCO P k + agCI P k k
def agOv (ln : Nat → Int32) (A : List AG) (j k : Nat) : Bool := decide ((agG A k).1 < (agG A j).1 + ln (agG A j).2.1 ∧ (agG A j).1 < (agG A k).1 + ln (agG A k).2.1)
def agB1 (ln : Nat → Int32) (t : Int32) (q : Int32 × Int32) (x : AG) : Int32 × Int32 :=
  if (if q.2 < x.1 then x.1 else q.2) < (if x.1 + ln x.2.1 < t then x.1 + ln x.2.1 else t) then (q.1 + (if x.1 + ln x.2.1 < t then x.1 + ln x.2.1 else t) - (if q.2 < x.1 then x.1 else q.2), (if x.1 + ln x.2.1 < t then x.1 + ln x.2.1 else t)) else q
def agBm (ln : Nat → Int32) (A : List AG) (f t : Int32) : Nat → Int32 × Int32
  | 0 => (0, f)
  | k + 1 => agB1 ln t (agBm ln A f t k) (agG A k)
abbrev tmOk (f t : Int32) : Prop := ¬ lg_cmp (t.toInt64 - f.toInt64) 1 < 0 ∧ ¬ 0 < lg_cmp (t.toInt64 - f.toInt64) 100000
def sp_agenda (F : FM) (P f t : Int32) : Int32 × Int32 := if 0 ≤ P ∧ P ≤ 2 then (0, nI (agCt (fun x => decide (f ≤ x.1 ∧ x.1 < t)) (agR F P.toNatClampNeg) (agR F P.toNatClampNeg).length)) else (1, 0)
def agV (A : List AG) (k w : Nat) : Int32 := match w with
  | 0 => nI (agG A k).2.1
  | 1 => nI (agG A k).2.2
  | _ => (agG A k).1
def sp_agendaAt (F : FM) (P f i W : Int32) : Int32 × Int32 := if 0 ≤ P ∧ P ≤ 2 then (if 0 ≤ i ∧ i ≤ nI ((agR F P.toNatClampNeg).length) - nI (agFf f (agR F P.toNatClampNeg)) - 1 then (if 0 ≤ W ∧ W ≤ 2 then (0, agV (agR F P.toNatClampNeg) (agFf f (agR F P.toNatClampNeg) + i.toNatClampNeg) W.toNatClampNeg) else (3, 0)) else (2, 0)) else (1, 0)
def sp_clashes (F : FM) (P : Int32) : Int32 × Int32 := if 0 ≤ P ∧ P ≤ 2 then (0, nI (agCO (agOv (rLn F P.toNatClampNeg) (agR F P.toNatClampNeg)) (agR F P.toNatClampNeg).length)) else (1, 0)
theorem agR_len (F : FM) (p : Nat) : (agR F p).length ≤ 240 := agAll_len 8
theorem rKr.th {F F' : FM} {k : Int32} (h : rKr F F') : rKp F (upF F' 0 0 k) := h.p.th
end
