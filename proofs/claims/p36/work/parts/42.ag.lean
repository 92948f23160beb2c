/-! AGENDAS: the list, as both make it. -/
section
variable {l : Launch} {g : EG}
abbrev AG : Type := Int32 × (Nat × Nat)
def agG (A : List AG) (j : Nat) : AG := A.getD j (0, 0, 0)
/-- where a moment goes: behind the last one that is not greater, seen from the end -/
def agPos (A : List AG) (m : Int32) : Nat → Nat
  | 0 => 0
  | k + 1 => if m < (agG A k).1 then agPos A m k else k + 1
def agI (A : List AG) (k : Nat) (x : AG) : List AG := A.take k ++ x :: A.drop k
def agIns (A : List AG) (x : AG) : List AG := agI A (agPos A x.1 A.length) x
theorem agPos_le {A : List AG} {m : Int32} : ∀ k, agPos A m k ≤ k
  | 0 => Nat.le_refl _
  | k + 1 => by
    unfold agPos
    split
    · have := agPos_le (A := A) (m := m) k
      omega
    · exact Nat.le_refl _
theorem agI_len {A : List AG} {k : Nat} {x : AG} (h : k ≤ A.length) : (agI A k x).length = A.length + 1 := by
  unfold agI
  simp only [List.length_append, List.length_take, List.length_cons, List.length_drop]
  omega
theorem agI_lt {A : List AG} {k j : Nat} {x : AG} (h : k ≤ A.length) (hj : j < k) : agG (agI A k x) j = agG A j := by
  unfold agG agI
  simp only [List.getD_eq_getElem?_getD]
  rw [List.getElem?_append_left (by rw [List.length_take]; omega), List.getElem?_take_of_lt hj]
theorem agI_eq {A : List AG} {k : Nat} {x : AG} (h : k ≤ A.length) : agG (agI A k x) k = x := by
  unfold agG agI
  simp only [List.getD_eq_getElem?_getD]
  rw [List.getElem?_append_right (by rw [List.length_take]; omega), List.length_take, show k - min k A.length = 0 by omega]
  rfl
theorem agI_gt {A : List AG} {k j : Nat} {x : AG} (h : k ≤ A.length) (hj : k < j) : agG (agI A k x) j = agG A (j - 1) := by
  unfold agG agI
  simp only [List.getD_eq_getElem?_getD]
  rw [List.getElem?_append_right (by rw [List.length_take]; omega), List.length_take, show j - min k A.length = (j - k - 1) + 1 by omega, List.getElem?_cons_succ, List.getElem?_drop, show k + (j - k - 1) = j - 1 by omega]
theorem agIns_len {A : List AG} {x : AG} : (agIns A x).length = A.length + 1 := agI_len (agPos_le _)
/-- the dates of one event, one after the other -/
def agDs (sh : Nat → Bool) (mo : Nat → Int32) (e : Nat) (A : List AG) : Nat → List AG
  | 0 => A
  | d + 1 => if sh d then agIns (agDs sh mo e A d) (mo d, e, d) else agDs sh mo e A d
def agAll (sh : Nat → Nat → Bool) (mo : Nat → Nat → Int32) : Nat → List AG
  | 0 => []
  | e + 1 => agDs (sh e) (mo e) e (agAll sh mo e) 30
theorem agDs_len {sh : Nat → Bool} {mo : Nat → Int32} {e : Nat} {A : List AG} : ∀ d, (agDs sh mo e A d).length ≤ A.length + d
  | 0 => Nat.le_refl _
  | d + 1 => by
    have := agDs_len (sh := sh) (mo := mo) (e := e) (A := A) d
    unfold agDs
    split
    · rw [agIns_len]; omega
    · omega
theorem agAll_len {sh : Nat → Nat → Bool} {mo : Nat → Nat → Int32} : ∀ e, (agAll sh mo e).length ≤ 30 * e
  | 0 => Nat.zero_le _
  | e + 1 => by
    have h1 := agAll_len (sh := sh) (mo := mo) e
    have h2 := agDs_len (sh := sh e) (mo := mo e) (e := e) (A := agAll sh mo e) 30
    show (agDs _ _ _ _ _).length ≤ _
    omega
theorem agDs_ext {sh sh' : Nat → Bool} {mo mo' : Nat → Int32} {e : Nat} {A : List AG} : ∀ d, (∀ j, j < d → sh j = sh' j) → (∀ j, j < d → sh j = true → mo j = mo' j) → agDs sh mo e A d = agDs sh' mo' e A d
  | 0, _, _ => rfl
  | d + 1, h1, h2 => by
    have ih := agDs_ext (sh := sh) (sh' := sh') (mo := mo) (mo' := mo') (e := e) (A := A) d (fun j hj => h1 j (by omega)) (fun j hj => h2 j (by omega))
    show (if sh d then _ else _) = (if sh' d then _ else _)
    rw [ih, ← h1 d (by omega)]
    by_cases hs : sh d = true
    · rw [if_pos hs, if_pos hs, h2 d (by omega) hs]
    · rw [if_neg hs, if_neg hs]
theorem agAll_ext {sh sh' : Nat → Nat → Bool} {mo mo' : Nat → Nat → Int32} : ∀ e, (∀ i, i < e → ∀ j, j < 30 → sh i j = sh' i j) → (∀ i, i < e → ∀ j, j < 30 → sh i j = true → mo i j = mo' i j) → agAll sh mo e = agAll sh' mo' e
  | 0, _, _ => rfl
  | e + 1, h1, h2 => by
    show agDs _ _ _ _ _ = agDs _ _ _ _ _
    rw [agAll_ext e (fun i hi => h1 i (by omega)) (fun i hi => h2 i (by omega))]
    exact agDs_ext 30 (h1 e (by omega)) (h2 e (by omega))
end
