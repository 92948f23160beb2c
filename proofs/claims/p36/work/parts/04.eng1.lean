/-! THE ENGINE, 1: values with tags, a memory that is a mathematical value, the heap that holds it. -/
abbrev EV : Type := Int32 ⊕ (Int64 ⊕ (UInt32 ⊕ (UInt64 ⊕ (Nat × Nat))))
def eI (x : Int32) : EV := .inl x
def eL (x : Int64) : EV := .inr (.inl x)
def eF (x : UInt32) : EV := .inr (.inr (.inl x))
def eD (x : UInt64) : EV := .inr (.inr (.inr (.inl x)))
def eP (t a : Nat) : EV := .inr (.inr (.inr (.inr (t, a))))
def e_tv : EV → Value
  | .inl x => .int x
  | .inr (.inl x) => .long x
  | .inr (.inr (.inl x)) => .float x
  | .inr (.inr (.inr (.inl x))) => .double x
  | .inr (.inr (.inr (.inr p))) => .ref p.2
/-- the memory: tags by address, ints, longs, references, the heap's size, the addresses that it knows -/
abbrev EM : Type := (Nat → Nat) × ((Nat → Nat → Int32) × ((Nat → Nat → Int64) × ((Nat → Nat → Option Nat) × (Nat × List Nat))))
def mT (M : EM) : Nat → Nat := M.1
def mI (M : EM) : Nat → Nat → Int32 := M.2.1
def mL (M : EM) : Nat → Nat → Int64 := M.2.2.1
def mP (M : EM) : Nat → Nat → Option Nat := M.2.2.2.1
def mN (M : EM) : Nat := M.2.2.2.2.1
def mA (M : EM) : List Nat := M.2.2.2.2.2
def e_up {α : Type} (f : Nat → Nat → α) (a k : Nat) (v : α) : Nat → Nat → α := fun b j => if b = a then (if j = k then v else f b j) else f b j
def e_uprow {α : Type} (f : Nat → Nat → α) (a : Nat) (v : Nat → α) : Nat → Nat → α := fun b j => if b = a then v j else f b j
def sI (M : EM) (a k : Nat) (v : Int32) : EM := (M.1, e_up M.2.1 a k v, M.2.2)
def sL (M : EM) (a k : Nat) (v : Int64) : EM := (M.1, M.2.1, e_up M.2.2.1 a k v, M.2.2.2)
def sP (M : EM) (a k : Nat) (v : Nat) : EM := (M.1, M.2.1, M.2.2.1, e_up M.2.2.2.1 a k (some v), M.2.2.2.2)
def sN (M : EM) (n : Nat) : EM := (M.1, M.2.1, M.2.2.1, M.2.2.2.1, n, M.2.2.2.2.2)
def sIr (M : EM) (a : Nat) (v : Nat → Int32) : EM := (M.1, e_uprow M.2.1 a v, M.2.2)
def sLr (M : EM) (a : Nat) (v : Nat → Int64) : EM := (M.1, M.2.1, e_uprow M.2.2.1 a v, M.2.2.2)
/-- a new cell with a tag, all of it 0 -/
def sNew (M : EM) (t : Nat) : EM := (va_up M.1 (mN M) t, e_uprow M.2.1 (mN M) (fun _ => 0), e_uprow M.2.2.1 (mN M) (fun _ => 0), e_uprow M.2.2.2.1 (mN M) (fun _ => none), mN M + 1, mA M ++ [mN M])
/-- what a tag says: a class by its place, or an array by its kind and its length -/
def e_kd : Nat → Option (Nat ⊕ (Nat × Nat))
  | 1 => some (.inl 9) | 101 => some (.inl 9)
  | 2 => some (.inl 5) | 102 => some (.inl 5)
  | 3 => some (.inl 7) | 103 => some (.inl 7)
  | 4 => some (.inr (1, 800))
  | 5 => some (.inl 4) | 105 => some (.inl 4)
  | 6 => some (.inr (5, 3)) | 106 => some (.inr (5, 3))
  | 7 => some (.inl 8)
  | 8 => some (.inr (6, 8)) | 108 => some (.inr (6, 8))
  | 9 => some (.inl 1) | 109 => some (.inl 1)
  | 10 => some (.inr (0, 30))
  | 11 => some (.inr (0, 30))
  | 12 => some (.inr (0, 2))
  | 13 => some (.inr (3, 2))
  | 14 => some (.inl 2) | 114 => some (.inl 2)
  | 15 => some (.inr (8, 2)) | 115 => some (.inr (8, 2))
  | 16 => some (.inl 6) | 116 => some (.inl 6)
  | 17 => some (.inr (0, 6))
  | 18 => some (.inr (0, 8))
  | 19 => some (.inl 3) | 119 => some (.inl 3)
  | 20 => some (.inr (7, 12)) | 120 => some (.inr (7, 12))
  | 21 => some (.inr (7, 2)) | 121 => some (.inr (7, 2))
  | 22 => some (.inr (2, 2))
  | 23 => some (.inl 0) | 123 => some (.inl 0)
  | 24 => some (.inr (0, 240))
  | 25 => some (.inr (0, 8))
  | 52 => some (.inr (0, 1))
  | 53 => some (.inr (0, 5))
  | 54 => some (.inr (4, 7))
  | 56 => some (.inl 11)
  | 57 => some (.inl 10)
  | t => bif Nat.ble 2000 t then some (.inr (1, t - 2000)) else none
/-- where a reference of a whole object leads: so far behind the object itself -/
def e_pf : Nat → Nat → Option Nat
  | 1, 0 => some 1 | 1, 1 => some 50 | 1, 2 => some 195 | 1, 3 => some 1937 | 1, 4 => some 2228 | 1, 5 => some 2229
  | 2, 0 => some 1 | 2, 4 => some 47
  | 3, 4 => some 1
  | 5, 1 => some 1 | 5, 2 => some 5
  | 6, j => bif Nat.blt j 3 then some (1 + j) else none
  | 8, j => bif Nat.blt j 8 then some (1 + 5 * j) else none
  | 9, 13 => some 1 | 9, 14 => some 2 | 9, 15 => some 3 | 9, 16 => some 4
  | 14, 1 => some 1 | 14, 2 => some 47 | 14, 3 => some 144
  | 15, j => bif Nat.blt j 2 then some (1 + 48 * j) else none
  | 16, 0 => some 1 | 16, 4 => some 47
  | 19, 2 => some 1
  | 20, j => bif Nat.blt j 12 then some (1 + 145 * j) else none
  | 21, j => bif Nat.blt j 2 then some (1 + 145 * j) else none
  | 23, 1 => some 1 | 23, 2 => some 2
  | _, _ => none
/-- the tag of what a reference leads to -/
def e_pt : Nat → Nat → Nat
  | 1, 0 => 2 | 1, 1 => 14 | 1, 2 => 19 | 1, 3 => 21 | 1, 4 => 22 | 1, 5 => 23
  | 101, 0 => 2 | 101, 1 => 14 | 101, 2 => 19 | 101, 3 => 121 | 101, 4 => 22 | 101, 5 => 23
  | 2, 0 => 5 | 2, 4 => 3 | 2, 7 => 7 | 2, 8 => 9
  | 102, 0 => 5 | 102, 4 => 3 | 102, 7 => 7 | 102, 8 => 9
  | 3, 4 => 4 | 103, 4 => 4
  | 5, 1 => 6 | 5, 2 => 8
  | 105, 1 => 106 | 105, 2 => 108
  | 6, _ => 7 | 106, _ => 7
  | 8, _ => 9 | 108, _ => 9
  | 9, 13 => 10 | 9, 14 => 11 | 9, 15 => 12 | 9, 16 => 13
  | 109, 13 => 10 | 109, 14 => 11 | 109, 15 => 12 | 109, 16 => 13
  | 14, 1 => 5 | 14, 2 => 15 | 14, 3 => 18
  | 114, 1 => 5 | 114, 2 => 115 | 114, 3 => 18
  | 15, _ => 16 | 115, _ => 16
  | 16, 0 => 5 | 16, 4 => 17
  | 116, 0 => 5 | 116, 4 => 17
  | 19, 2 => 20 | 119, 2 => 120
  | 20, _ => 14 | 120, _ => 14
  | 21, _ => 14 | 121, _ => 14
  | 23, 1 => 24 | 23, 2 => 25 | 123, 1 => 24 | 123, 2 => 25
  | 54, _ => 999 | 56, 0 => 999 | 57, 0 => 999
  | _, _ => 0
/-- the classes by their places in vwCl: fields, their types -/
def e_cN : Nat → Nat
  | 0 => 3 | 1 => 17 | 2 => 4 | 3 => 3 | 4 => 3 | 5 => 9 | 6 => 5 | 7 => 7 | 8 => 4 | 9 => 6 | 10 => 4 | 11 => 4 | _ => 0
def e_cT : Nat → Nat → FieldType
  | 0 => tyX0 | 1 => tyX2 | 2 => tyX3 | 3 => tyX4 | 4 => tyX5 | 5 => tyX6 | 6 => tyX7 | 7 => tyX8 | 8 => tyX9 | 9 => tyX10 | 10 => tyJ4 | _ => tyJ0
def e_cR : Nat → String
  | 0 => RX0 | 1 => RX2 | 2 => RX3 | 3 => RX4 | 4 => RX5 | 5 => RX6 | 6 => RX7 | 7 => RX8 | 8 => RX9 | 9 => RX10 | 10 => RJ4 | _ => RJ0
def e_cF : Nat → u_T
  | 0 => TX0 | 1 => TX2 | 2 => TX3 | 3 => TX4 | 4 => TX5 | 5 => TX6 | 6 => TX7 | 7 => TX8 | 8 => TX9 | 9 => TX10 | 10 => TJ4 | _ => TJ0
def e_fv (M : EM) (ty : FieldType) (a k : Nat) : Value := match ty with
  | .object _ => va_rf (mP M a k)
  | .array _ => va_rf (mP M a k)
  | .long => .long (mL M a k)
  | _ => .int (mI M a k)
def e_arr (M : EM) (a : Nat) (ai : Nat) : (Nat → Int32) ⊕ ((Nat → Int64) ⊕ ((Nat → UInt32) ⊕ ((Nat → UInt64) ⊕ (Nat → Option Nat)))) := match ai with
  | 0 => .inl (mI M a)
  | 1 => .inl (mI M a)
  | 2 => .inl (mI M a)
  | 3 => .inr (.inl (mL M a))
  | _ => .inr (.inr (.inr (.inr (mP M a))))
/-- what is one for the whole run: the classes and array classes by their numbers, where the own heap begins, the months' row, the texts -/
abbrev EG : Type := va_G × ((Nat → ClassId) × (Nat × (Nat × ((Nat → Nat) × (Nat → Nat)))))
def gD (g : EG) : va_G := g.1
def gC (g : EG) : Nat → ClassId := g.2.1
def gZ (g : EG) : Nat := g.2.2.1
def gM (g : EG) : Nat := g.2.2.2.1
def gS (g : EG) : Nat → Nat := g.2.2.2.2.1
def gB (g : EG) : Nat → Nat := g.2.2.2.2.2
def eA (g : EG) : Nat → Prop := fun q => gZ g ≤ q
def e_ent (g : EG) (M : EM) (a : Nat) : va_E := match e_kd (mT M a) with
  | some (.inl ci) => .inr (ci, (List.range (e_cN ci)).map (fun k => e_fv M (e_cT ci k) a k))
  | some (.inr q) => .inl (gC g q.1, q.2, e_arr M a q.1)
  | none => .inr (0, [])
def e_wd (g : EG) (M : EM) : va_W := va_pl (mA M) (e_ent g M)
abbrev e_tys (g : EG) : List (ClassId × FieldType) := [(gC g 0, .int), (gC g 1, .byte), (gC g 2, .boolean), (gC g 3, .long), (gC g 4, .object "java/lang/String"), (gC g 5, .object RX9), (gC g 6, .object RX2), (gC g 7, .object RX3), (gC g 8, .object RX7)]
/-- a reference that is read only: the months' row, a text (216: the script), a text's bytes -/
def e_ro (g : EG) (t a : Nat) : Prop := (t = 60 ∧ a = gM g) ∨ (200 ≤ t ∧ t < 261 ∧ a = gS g (t - 200)) ∨ (300 ≤ t ∧ t < 361 ∧ a = gB g (t - 300)) ∨ t = 399
def e_vok (g : EG) (M : EM) : EV → Prop
  | .inr (.inr (.inr (.inr p))) => (p.2 ∈ mA M ∧ mT M p.2 = p.1) ∨ e_ro g p.1 p.2
  | _ => True
def e_all (g : EG) (M : EM) : List EV → Prop
  | [] => True
  | v :: r => e_vok g M v ∧ e_all g M r
def e_allL (g : EG) (M : EM) : List (Option EV) → Prop
  | [] => True
  | none :: r => e_allL g M r
  | some v :: r => e_vok g M v ∧ e_allL g M r
def e_ok (M : EM) : Prop := ∀ a ∈ mA M, e_kd (mT M a) ≠ none ∧ (∀ k q, mP M a k = some q → e_pt (mT M a) k = 999 ∨ (q ∈ mA M ∧ mT M q = e_pt (mT M a) k)) ∧ ∀ k off, e_pf (mT M a) k = some off → mP M a k = some (a + off)
/-- what a method keeps: the cells that were known are known still, with their tags (but for a new object that its constructor makes whole) -/
def e_le (ex : Option Nat) (M M' : EM) : Prop := ∀ a ∈ mA M, some a ≠ ex → a ∈ mA M' ∧ mT M' a = mT M a
theorem e_le.rf {ex : Option Nat} {M : EM} : e_le ex M M := fun _ h _ => ⟨h, rfl⟩
theorem e_le.tr {ex : Option Nat} {M M' M'' : EM} (h : e_le ex M M') (h' : e_le none M' M'') : e_le ex M M'' := fun a ha hx => by
  obtain ⟨h1, h2⟩ := h a ha hx
  obtain ⟨h3, h4⟩ := h' a h1 (by simp)
  exact ⟨h3, h4.trans h2⟩
theorem e_vok.le {g : EG} {M M' : EM} (h : e_le none M M') {v : EV} (hv : e_vok g M v) : e_vok g M' v := by
  rcases v with x | x | x | x | ⟨t, a⟩ <;> first | trivial | skip
  rcases hv with ⟨h1, h2⟩ | h1
  · obtain ⟨h3, h4⟩ := h a h1 (by simp)
    exact Or.inl ⟨h3, h4.trans h2⟩
  · exact Or.inr h1
theorem e_all.le {g : EG} {M M' : EM} (h : e_le none M M') : ∀ {l : List EV}, e_all g M l → e_all g M' l
  | [], _ => trivial
  | _ :: _, ⟨h1, h2⟩ => ⟨h1.le h, e_all.le h h2⟩
theorem e_allL.le {g : EG} {M M' : EM} (h : e_le none M M') : ∀ {l : List (Option EV)}, e_allL g M l → e_allL g M' l
  | [], _ => trivial
  | none :: l, h2 => e_allL.le (l := l) h h2
  | some _ :: l, ⟨h1, h2⟩ => ⟨h1.le h, e_allL.le (l := l) h h2⟩
-- locals
def lget : List (Option EV) → Nat → Option EV
  | [], _ => none
  | v :: _, 0 => v
  | _ :: r, i + 1 => lget r i
def e_cl : Option EV → Option EV
  | some (.inr (.inl _)) => none
  | some (.inr (.inr (.inr (.inl _)))) => none
  | o => o
def lset1 : List (Option EV) → Nat → EV → List (Option EV)
  | [], _, _ => []
  | _ :: r, 0, v => some v :: r
  | x :: r, 1, v => e_cl x :: lset1 r 0 v
  | x :: r, i + 2, v => x :: lset1 r (i + 1) v
def lset2 : List (Option EV) → Nat → EV → List (Option EV)
  | [], _, _ => []
  | _ :: [], 0, v => some v :: []
  | _ :: _ :: r, 0, v => some v :: none :: r
  | x :: r, 1, v => e_cl x :: lset2 r 0 v
  | x :: r, i + 2, v => x :: lset2 r (i + 1) v
def e_asc : Nat → List (Option EV) → List (Nat × Value)
  | _, [] => []
  | k, none :: r => e_asc (k + 1) r
  | k, some v :: r => (k, e_tv v) :: e_asc (k + 1) r
theorem e_asc_get : ∀ {ls : List (Option EV)} {k i : Nat} {v : EV}, lget ls i = some v → (k + i, e_tv v) ∈ e_asc k ls
  | some _ :: _, k, 0, v, h => by cases h; exact List.mem_cons_self
  | none :: r, k, i + 1, v, h => by
    have := e_asc_get (ls := r) (k := k + 1) (i := i) h
    rw [show k + (i + 1) = k + 1 + i by omega]; exact this
  | some _ :: r, k, i + 1, v, h => by
    have := e_asc_get (ls := r) (k := k + 1) (i := i) h
    rw [show k + (i + 1) = k + 1 + i by omega]; exact List.mem_cons_of_mem _ this
theorem e_asc_ge : ∀ {ls : List (Option EV)} {k : Nat} {q : Nat × Value}, q ∈ e_asc k ls → k ≤ q.1
  | none :: r, k, q, h => by have := e_asc_ge (ls := r) h; omega
  | some _ :: r, k, q, h => by
    rcases List.mem_cons.mp h with h | h
    · rw [h]; exact Nat.le_refl _
    · have := e_asc_ge (ls := r) h; omega
theorem e_allL_get {g : EG} {M : EM} : ∀ {ls : List (Option EV)} {i : Nat} {v : EV}, e_allL g M ls → lget ls i = some v → e_vok g M v
  | some _ :: _, 0, v, h, h2 => by cases h2; exact h.1
  | none :: r, i + 1, v, h, h2 => e_allL_get (ls := r) (i := i) h h2
  | some _ :: r, i + 1, v, h, h2 => e_allL_get (ls := r) (i := i) h.2 h2
theorem e_asc_set1 {v : EV} : ∀ {ls : List (Option EV)} {k i : Nat} {q : Nat × Value}, q ∈ e_asc k (lset1 ls i v) → q ∈ (k + i, e_tv v) :: (e_asc k ls).filter (fun q => !(q.1 == k + i) && !(q.1 + 1 == k + i && q.2.category == 2))
  | [], _, _, _, h => by simp [lset1, e_asc] at h
  | x :: r, k, 0, q, h => by
    simp only [lset1, e_asc, List.mem_cons] at h
    rcases h with h | h
    · exact List.mem_cons.mpr (Or.inl h)
    · have h1 := e_asc_ge h
      refine List.mem_cons_of_mem _ (List.mem_filter.mpr ⟨?_, ?_⟩)
      · cases x with
        | none => exact h
        | some w => exact List.mem_cons_of_mem _ h
      · have n1 : q.1 ≠ k + 0 := by omega
        have n2 : q.1 + 1 ≠ k + 0 := by omega
        simp only [beq_eq_false_iff_ne.mpr n1, beq_eq_false_iff_ne.mpr n2, Bool.false_and, Bool.not_false, Bool.and_self]
  | x :: r, k, 1, q, h => by
    simp only [lset1] at h
    have key : q ∈ e_asc (k + 1) (lset1 r 0 v) → q ∈ (k + 1, e_tv v) :: (e_asc k (x :: r)).filter (fun q => !(q.1 == k + 1) && !(q.1 + 1 == k + 1 && q.2.category == 2)) := by
      intro h
      have h2 := e_asc_set1 (ls := r) (k := k + 1) (i := 0) h
      rcases List.mem_cons.mp h2 with h2 | h2
      · exact List.mem_cons.mpr (Or.inl h2)
      · obtain ⟨h3, h4⟩ := List.mem_filter.mp h2
        refine List.mem_cons_of_mem _ (List.mem_filter.mpr ⟨?_, h4⟩)
        cases x with
        | none => exact h3
        | some w => exact List.mem_cons_of_mem _ h3
    rcases x with _ | w
    · exact key h
    · rcases w with w | w | w | w | w
      · simp only [e_cl, e_asc, List.mem_cons] at h
        rcases h with h | h
        · refine List.mem_cons_of_mem _ (List.mem_filter.mpr ⟨List.mem_cons.mpr (Or.inl h), ?_⟩)
          rw [h]; simp [e_tv, Value.category]
        · exact key h
      · exact key h
      · simp only [e_cl, e_asc, List.mem_cons] at h
        rcases h with h | h
        · refine List.mem_cons_of_mem _ (List.mem_filter.mpr ⟨List.mem_cons.mpr (Or.inl h), ?_⟩)
          rw [h]; simp [e_tv, Value.category]
        · exact key h
      · exact key h
      · simp only [e_cl, e_asc, List.mem_cons] at h
        rcases h with h | h
        · refine List.mem_cons_of_mem _ (List.mem_filter.mpr ⟨List.mem_cons.mpr (Or.inl h), ?_⟩)
          rw [h]; simp [e_tv, Value.category]
        · exact key h
  | x :: r, k, i + 2, q, h => by
    simp only [lset1] at h
    have key : q ∈ e_asc (k + 1) (lset1 r (i + 1) v) → q ∈ (k + (i + 2), e_tv v) :: (e_asc k (x :: r)).filter (fun q => !(q.1 == k + (i + 2)) && !(q.1 + 1 == k + (i + 2) && q.2.category == 2)) := by
      intro h
      have h2 := e_asc_set1 (ls := r) (k := k + 1) (i := i + 1) h
      rw [show k + 1 + (i + 1) = k + (i + 2) by omega] at h2
      rcases List.mem_cons.mp h2 with h2 | h2
      · exact List.mem_cons.mpr (Or.inl h2)
      · obtain ⟨h3, h4⟩ := List.mem_filter.mp h2
        refine List.mem_cons_of_mem _ (List.mem_filter.mpr ⟨?_, h4⟩)
        cases x with
        | none => exact h3
        | some w => exact List.mem_cons_of_mem _ h3
    rcases x with _ | w
    · exact key h
    · simp only [e_asc, List.mem_cons] at h
      rcases h with h | h
      · refine List.mem_cons_of_mem _ (List.mem_filter.mpr ⟨List.mem_cons.mpr (Or.inl h), ?_⟩)
        rw [h]
        have n1 : k ≠ k + (i + 2) := by omega
        have n2 : k + 1 ≠ k + (i + 2) := by omega
        simp [n1, n2]
      · exact key h
theorem e_asc_set2 {v : EV} : ∀ {ls : List (Option EV)} {k i : Nat} {q : Nat × Value}, q ∈ e_asc k (lset2 ls i v) → q ∈ (k + i, e_tv v) :: (e_asc k ls).filter (fun q => !(q.1 == k + i) && (!(q.1 == k + i + 1) && !(q.1 + 1 == k + i && q.2.category == 2)))
  | [], _, _, _, h => by simp [lset2, e_asc] at h
  | x :: [], k, 0, q, h => by
    simp only [lset2, e_asc, List.mem_cons] at h
    rcases h with h | h
    · exact List.mem_cons.mpr (Or.inl h)
    · cases h
  | x :: y :: r, k, 0, q, h => by
    simp only [lset2, e_asc, List.mem_cons] at h
    rcases h with h | h
    · exact List.mem_cons.mpr (Or.inl h)
    · have h1 := e_asc_ge h
      refine List.mem_cons_of_mem _ (List.mem_filter.mpr ⟨?_, ?_⟩)
      · have h5 : q ∈ e_asc (k + 1) (y :: r) := by
          cases y with
          | none => exact h
          | some w => exact List.mem_cons_of_mem _ h
        cases x with
        | none => exact h5
        | some w => exact List.mem_cons_of_mem _ h5
      · have n1 : q.1 ≠ k + 0 := by omega
        have n2 : q.1 + 1 ≠ k + 0 := by omega
        have n3 : q.1 ≠ k + 0 + 1 := by omega
        simp only [beq_eq_false_iff_ne.mpr n1, beq_eq_false_iff_ne.mpr n2, beq_eq_false_iff_ne.mpr n3, Bool.false_and, Bool.not_false, Bool.and_self]
  | x :: r, k, 1, q, h => by
    simp only [lset2] at h
    have key : q ∈ e_asc (k + 1) (lset2 r 0 v) → q ∈ (k + 1, e_tv v) :: (e_asc k (x :: r)).filter (fun q => !(q.1 == k + 1) && (!(q.1 == k + 1 + 1) && !(q.1 + 1 == k + 1 && q.2.category == 2))) := by
      intro h
      have h2 := e_asc_set2 (ls := r) (k := k + 1) (i := 0) h
      rcases List.mem_cons.mp h2 with h2 | h2
      · exact List.mem_cons.mpr (Or.inl h2)
      · obtain ⟨h3, h4⟩ := List.mem_filter.mp h2
        refine List.mem_cons_of_mem _ (List.mem_filter.mpr ⟨?_, h4⟩)
        cases x with
        | none => exact h3
        | some w => exact List.mem_cons_of_mem _ h3
    rcases x with _ | w
    · exact key h
    · rcases w with w | w | w | w | w
      · simp only [e_cl, e_asc, List.mem_cons] at h
        rcases h with h | h
        · refine List.mem_cons_of_mem _ (List.mem_filter.mpr ⟨List.mem_cons.mpr (Or.inl h), ?_⟩)
          rw [h]; have n9 : k ≠ k + 1 + 1 := by omega
          simp [e_tv, Value.category, n9]
        · exact key h
      · exact key h
      · simp only [e_cl, e_asc, List.mem_cons] at h
        rcases h with h | h
        · refine List.mem_cons_of_mem _ (List.mem_filter.mpr ⟨List.mem_cons.mpr (Or.inl h), ?_⟩)
          rw [h]; have n9 : k ≠ k + 1 + 1 := by omega
          simp [e_tv, Value.category, n9]
        · exact key h
      · exact key h
      · simp only [e_cl, e_asc, List.mem_cons] at h
        rcases h with h | h
        · refine List.mem_cons_of_mem _ (List.mem_filter.mpr ⟨List.mem_cons.mpr (Or.inl h), ?_⟩)
          rw [h]; have n9 : k ≠ k + 1 + 1 := by omega
          simp [e_tv, Value.category, n9]
        · exact key h
  | x :: r, k, i + 2, q, h => by
    simp only [lset2] at h
    have key : q ∈ e_asc (k + 1) (lset2 r (i + 1) v) → q ∈ (k + (i + 2), e_tv v) :: (e_asc k (x :: r)).filter (fun q => !(q.1 == k + (i + 2)) && (!(q.1 == k + (i + 2) + 1) && !(q.1 + 1 == k + (i + 2) && q.2.category == 2))) := by
      intro h
      have h2 := e_asc_set2 (ls := r) (k := k + 1) (i := i + 1) h
      rw [show k + 1 + (i + 1) = k + (i + 2) by omega] at h2
      rcases List.mem_cons.mp h2 with h2 | h2
      · exact List.mem_cons.mpr (Or.inl h2)
      · obtain ⟨h3, h4⟩ := List.mem_filter.mp h2
        refine List.mem_cons_of_mem _ (List.mem_filter.mpr ⟨?_, h4⟩)
        cases x with
        | none => exact h3
        | some w => exact List.mem_cons_of_mem _ h3
    rcases x with _ | w
    · exact key h
    · simp only [e_asc, List.mem_cons] at h
      rcases h with h | h
      · refine List.mem_cons_of_mem _ (List.mem_filter.mpr ⟨List.mem_cons.mpr (Or.inl h), ?_⟩)
        rw [h]
        have n1 : k ≠ k + (i + 2) := by omega
        have n2 : k + 1 ≠ k + (i + 2) := by omega
        have n3 : k ≠ k + (i + 2) + 1 := by omega
        simp only [beq_eq_false_iff_ne.mpr n1, beq_eq_false_iff_ne.mpr n2, beq_eq_false_iff_ne.mpr n3, Bool.false_and, Bool.not_false, Bool.and_self]
      · exact key h
theorem e_allL_cl {g : EG} {M : EM} {x : Option EV} {r : List (Option EV)} (h : e_allL g M (x :: r)) : e_allL g M (e_cl x :: r) := by
  rcases x with _ | w
  · exact h
  · rcases w with w | w | w | w | w <;> first | exact h | exact h.2
theorem e_allL_tl {g : EG} {M : EM} {x : Option EV} {r : List (Option EV)} (h : e_allL g M (x :: r)) : e_allL g M r := by
  cases x with
  | none => exact h
  | some w => exact h.2
theorem e_allL_hd {g : EG} {M : EM} {x : Option EV} {r r' : List (Option EV)} (h : e_allL g M (x :: r)) (h' : e_allL g M r') : e_allL g M (x :: r') := by
  cases x with
  | none => exact h'
  | some w => exact ⟨h.1, h'⟩
theorem e_allL_set1 {g : EG} {M : EM} {v : EV} (hv : e_vok g M v) : ∀ {ls : List (Option EV)} {i : Nat}, e_allL g M ls → e_allL g M (lset1 ls i v)
  | [], _, _ => trivial
  | _ :: _, 0, h => ⟨hv, e_allL_tl h⟩
  | _ :: _, 1, h => e_allL_hd (e_allL_cl h) (e_allL_set1 hv (e_allL_tl h))
  | _ :: _, i + 2, h => e_allL_hd h (e_allL_set1 hv (e_allL_tl h))
theorem e_allL_set2 {g : EG} {M : EM} {v : EV} (hv : e_vok g M v) : ∀ {ls : List (Option EV)} {i : Nat}, e_allL g M ls → e_allL g M (lset2 ls i v)
  | [], _, _ => by simp only [lset2]; trivial
  | _ :: [], 0, _ => by simp only [lset2]; exact ⟨hv, trivial⟩
  | x :: y :: r, 0, h => by
    simp only [lset2]
    have h1 : e_allL g M r := e_allL_tl (x := y) (e_allL_tl (x := x) h)
    exact ⟨hv, h1⟩
  | _ :: _, 1, h => by simp only [lset2]; exact e_allL_hd (e_allL_cl h) (e_allL_set2 hv (e_allL_tl h))
  | _ :: _, i + 2, h => by simp only [lset2]; exact e_allL_hd h (e_allL_set2 hv (e_allL_tl h))
theorem e_has1 {ls' : Array Slot} {nL i : Nat} {ls : List (Option EV)} {v : EV} (h : lv_has ls' nL ((i, e_tv v) :: (e_asc 0 ls).filter (fun q => !(q.1 == i) && !(q.1 + 1 == i && q.2.category == 2)))) : lv_has ls' nL (e_asc 0 (lset1 ls i v)) :=
  ⟨h.1, h.2.1, fun q hq => h.2.2 q (by have := e_asc_set1 hq; simpa using this)⟩
theorem e_has2 {ls' : Array Slot} {nL i : Nat} {ls : List (Option EV)} {v : EV} (h : lv_has ls' nL ((i, e_tv v) :: (e_asc 0 ls).filter (fun q => !(q.1 == i) && (!(q.1 == i + 1) && !(q.1 + 1 == i && q.2.category == 2))))) : lv_has ls' nL (e_asc 0 (lset2 ls i v)) :=
  ⟨h.1, h.2.1, fun q hq => h.2.2 q (by have := e_asc_set2 hq; simpa using this)⟩
theorem e_lv {lsM : Array Slot} {nL i : Nat} {ls : List (Option EV)} {v : EV} (h : lv_has lsM nL (e_asc 0 ls)) (hg : lget ls i = some v) : lsM[i]? = some (.val (e_tv v)) := by
  have := h.2.2 _ (e_asc_get (k := 0) hg)
  simpa using this
/-- fewer locals -/
theorem e_has_sub {lsM : Array Slot} {nL : Nat} {l l' : List (Nat × Value)} (h : lv_has lsM nL l) (hs : ∀ q ∈ l', q ∈ l) : lv_has lsM nL l' := ⟨h.1, h.2.1, fun q hq => h.2.2 q (hs q hq)⟩
