/-! THE LAW, 11: questions, acts, undo, keep, restore at the ghost cells. -/
section
variable {l : Launch} {g : EG}
theorem e_fr0.eq {M M' : EM} {lo hi a b : Nat} (h : e_fr0 M M' lo hi) (hh : b ≤ lo ∨ hi ≤ a) : eqR M M' a b := fun c c1 c2 j => h.2 c j (by omega)
/-- a question that is answered: nothing is made, the object is the same -/
theorem JC.q {σ : SG} {E : Int32 → String} {av : List EV} {M : EM} {x nz a c nb T : Nat} {F : FM} {B : Nat → Nat} {sp : Int32 × Int32} (h : JC M x F nz a c nb T B) (hc : Ct l g σ (lvD x :: av) M (fun o M' => BX (TQ E M x sp o M'))) (h0 : sp.1 = 0) : Ct l g σ (lvD x :: av) M (fun o M' => BX (mN M' = mN M ∧ JC M' x F nz a c nb T B ∧ o = .inl (some (.inl sp.2)))) := by
  refine hc.mono ?_
  rintro o M' ⟨⟨-, ho, hf⟩⟩
  have f := hf h0
  rw [if_pos h0] at ho
  exact ⟨⟨f.n, h.eq (f.eq (by omega)), ho⟩⟩
theorem JC.qf {σ : SG} {E : Int32 → String} {av : List EV} {M : EM} {x nz a c nb T : Nat} {F : FM} {B : Nat → Nat} {sp : Int32 × UInt32} (h : JC M x F nz a c nb T B) (hc : Ct l g σ (lvD x :: av) M (fun o M' => BX (TQf E M x sp o M'))) (h0 : sp.1 = 0) : Ct l g σ (lvD x :: av) M (fun o M' => BX (mN M' = mN M ∧ JC M' x F nz a c nb T B ∧ o = .inl (some (.inr (.inr (.inl sp.2)))))) := by
  refine hc.mono ?_
  rintro o M' ⟨⟨-, ho, hf⟩⟩
  have f := hf h0
  rw [if_pos h0] at ho
  exact ⟨⟨f.n, h.eq (f.eq (by omega)), ho⟩⟩
/-- a call that is refused -/
theorem JC.n {σ : SG} {E : Int32 → String} {av : List EV} {M : EM} {x nz a c nb T : Nat} {F : FM} {B : Nat → Nat} {r w : Int32} (h : JC M x F nz a c nb T B) (hc : Ct l g σ (lvD x :: av) M (fun o M' => BX (TQ E M x (r, w) o M'))) (h0 : ¬ r = 0) : Ct l g σ (lvD x :: av) M (fun o M' => BX (o = .inr (E r) ∧ JC M' x F nz a c nb T B)) := by
  refine hc.mono ?_
  rintro o M' ⟨⟨f, ho, -⟩⟩
  rw [if_neg h0] at ho
  exact ⟨⟨ho, h.eq (f.eq (by omega))⟩⟩
/-- how many rows stay when one more is kept -/
def hU (c : Nat) : Nat := if c = 12 then 11 else c
/-- the cells after an act: the row before lies on top of the past -/
def hPush (F : FM) (c : Nat) (s' : Nat → Int32) : FM := fun i j =>
  if i = 1 then s' j else if i = 2 then (if j < 3324 * hU c then F 2 (j + if c = 12 then 3324 else 0) else F 1 (j - 3324 * hU c)) else if i = 0 ∧ j = 6 then nI (hU c + 1) else F i j
theorem hPush_r {F : FM} {c i : Nat} {s' : Nat → Int32} (h0 : ¬ i = 0) (h1 : ¬ i = 1) (h2 : ¬ i = 2) : hPush F c s' i = F i := by
  funext j
  show (if i = 1 then _ else if i = 2 then _ else if i = 0 ∧ j = 6 then _ else F i j) = F i j
  rw [if_neg h1, if_neg h2, if_neg (fun z => h0 z.1)]
theorem hPush_0 {F : FM} {c j : Nat} {s' : Nat → Int32} (h : ¬ j = 6) : hPush F c s' 0 j = F 0 j := by
  show (if (0 : Nat) = 1 then _ else if (0 : Nat) = 2 then _ else if (0 : Nat) = 0 ∧ j = 6 then _ else F 0 j) = F 0 j
  rw [if_neg (by decide), if_neg (by decide), if_neg (fun z => h z.2)]
theorem hPush_1 {F : FM} {c : Nat} {s' : Nat → Int32} : hPush F c s' 1 = s' := rfl
theorem hPush_p {F : FM} {c : Nat} {s' : Nat → Int32} : pS (hPush F c s') (hU c) = F 1 := by
  funext j
  show (if 3324 * hU c + j < 3324 * hU c then _ else F 1 (3324 * hU c + j - 3324 * hU c)) = F 1 j
  rw [if_neg (by omega), Nat.add_sub_cancel_left]
theorem hPush_k {F : FM} {c t : Nat} {s' : Nat → Int32} : kS (hPush F c s') t = kS F t := by
  unfold kS
  rw [hPush_r (by decide) (by decide) (by decide)]
theorem hPush_rAc {F : FM} {c : Nat} {s' : Nat → Int32} : rAc F (hPush F c s') c := by
  refine ⟨rfl, fun i k hi hk => ?_, fun k hk => ?_, fun i hi => hPush_r (by omega) (by omega) (by omega), fun j hj => hPush_0 (by omega)⟩
  · have hi' : i < hU c := hi
    show (if 3324 * i + k < 3324 * hU c then F 2 (3324 * i + k + if c = 12 then 3324 else 0) else _) = _
    rw [if_pos (by omega)]
    congr 1
    split <;> omega
  · exact congrFun (hPush_p (F := F) (c := c) (s' := s')) k
/-- an act that is done -/
theorem JC.a {σ : SG} {av : List EV} {M : EM} {x nz a c nb T : Nat} {F : FM} {B : Nat → Nat} {s' : Nat → Int32} {v : Int32} (h : JC M x F nz a c nb T B) (hi : sIv s' nz) (hz : sZo s' nz) (hk : ∃ k, s' 0 = nI k ∧ k ≤ T + 9)
    (h1 : Ct l g σ (lvD x :: av) M (fun o M' => AQ M x a c nz s' v o M')) : Ct l g σ (lvD x :: av) M (fun o M' => BX (o = .inl (some (.inl v)) ∧ JC M' x (hPush F c s') nz ((a + 1) % 12) (min 12 (c + 1)) nb (T + 9) B)) := by
  refine h1.mono ?_
  rintro o M' ⟨⟨hy, ho⟩⟩
  exact ⟨⟨ho, h.act hy hPush_rAc rfl hi hz hk (by omega)⟩⟩
/-- the cells after undo -/
def hPop (F : FM) (v : Nat) : FM := fun i j => if i = 1 then F 2 (3324 * v + j) else if i = 0 ∧ j = 6 then nI v else F i j
theorem hPop_r {F : FM} {v i : Nat} (h0 : ¬ i = 0) (h1 : ¬ i = 1) : hPop F v i = F i := by
  funext j
  show (if i = 1 then _ else if i = 0 ∧ j = 6 then _ else F i j) = F i j
  rw [if_neg h1, if_neg (fun z => h0 z.1)]
theorem hPop_0 {F : FM} {v j : Nat} (h : ¬ j = 6) : hPop F v 0 j = F 0 j := by
  show (if (0 : Nat) = 1 then _ else if (0 : Nat) = 0 ∧ j = 6 then _ else F 0 j) = F 0 j
  rw [if_neg (by decide), if_neg (fun z => h z.2)]
theorem JC.undoC (hl0 : l.stackTraces = false) {M : EM} {x nz a v nb T : Nat} {F : FM} {B : Nat → Nat} (h : JC M x F nz a (v + 1) nb T B) : Ct l g sg_X10_undo [lvD x] M (fun o M' => BX (o = .inl (some (.inl (nI v))) ∧ JC M' x (hPop F v) nz ((a + 11) % 12) v nb T B)) := by
  have hh := h.2.1.1
  have hrow := h.2.2.1 v (by omega)
  have e9 : (a + 11) % 12 = hIx a (v + 1) v := by have := hh.2.1; have := hh.2.2.2; unfold hIx; omega
  have hb : bX M (x + 195 + 2 + 145 * ((a + 11) % 12)) := by rw [e9]; exact hrow.bX
  refine Ct.mono (ca_undo1 hl0 M hh (by omega) hb) ?_
  rintro o M' ⟨⟨h1, h2⟩⟩
  exact ⟨⟨h2, h.undo h1 ⟨fun j _ => rfl, fun i h0 h1' => hPop_r h0 h1', fun j _ h6 => hPop_0 h6⟩ rfl⟩⟩
theorem JC.undoN (hl0 : l.stackTraces = false) {M : EM} {x nz a nb T : Nat} {F : FM} {B : Nat → Nat} (h : JC M x F nz a 0 nb T B) : Ct l g sg_X10_undo [lvD x] M (fun o M' => BX (o = .inr "java/lang/IllegalStateException" ∧ JC M' x F nz a 0 nb T B)) := by
  have hh := h.2.1.1
  refine Ct.mono (ca_undo0 hl0 M (c := 0) hh.2.2.1) ?_
  rintro o M' ⟨⟨n, rfl⟩, h2⟩
  exact ⟨⟨h2, h.eq eqR.sN⟩⟩
/-- the cells after keep -/
def hKeep (F : FM) (t : Nat) : FM := fun i j => if i = 3 then (if 3324 * t ≤ j ∧ j < 3324 * t + 3324 then F 1 (j - 3324 * t) else F 3 j) else if i = 4 then wS (F 4) t 1 j else F i j
theorem JC.keepC (hl0 : l.stackTraces = false) {M : EM} {x nz a c nb T t : Nat} {F : FM} {B : Nat → Nat} (h : JC M x F nz a c nb T B) (ht : t < 2) : Ct l g sg_X10_keep [lvD x, .inl (nI t)] M (fun o M' => BX (o = .inl (some (.inl (F 1 0))) ∧ JC M' x (hKeep F t) nz a c nb T B)) := by
  refine Ct.mono (ca_keep1 hl0 M ht h.1.1.bX) ?_
  rintro o M' ⟨⟨h1, h2⟩⟩
  refine ⟨⟨by rw [h2, h.hi], h.keep ht h1 ⟨fun j hj => ?_, fun j hj => ?_, rfl, fun i h0 h3 h4 => ?_, fun j _ => rfl⟩⟩⟩
  · show (if 3324 * t ≤ 3324 * t + j ∧ 3324 * t + j < 3324 * t + 3324 then F 1 (3324 * t + j - 3324 * t) else _) = F 1 j
    rw [if_pos ⟨by omega, by omega⟩, Nat.add_sub_cancel_left]
  · show (if 3324 * t ≤ j ∧ j < 3324 * t + 3324 then _ else F 3 j) = F 3 j
    rw [if_neg (by omega)]
  · funext j
    show (if i = 3 then _ else if i = 4 then _ else F i j) = F i j
    rw [if_neg h3, if_neg h4]
/-- the cells after restore: any row that says what the slot's row says -/
def hRes (F : FM) (s : Nat → Int32) : FM := fun i j => if i = 1 then s j else if i = 0 ∧ j = 6 then 0 else F i j
theorem JC.restC (hl0 : l.stackTraces = false) {M : EM} {x nz a c nb T t : Nat} {F : FM} {B : Nat → Nat} {s : Nat → Int32} (h : JC M x F nz a c nb T B) (ht : t < 2) (hk : F 4 t = 1) (hs : ∀ j, j < 3324 → s j = kS F t j) : Ct l g sg_X10_restore [lvD x, .inl (nI t)] M (fun o M' => BX (o = .inl (some (.inl (kS F t 0))) ∧ JC M' x (hRes F s) nz a 0 nb T B)) := by
  have hk1 : mI M (x + 2228) t = 1 := ((h.2.2.2.1 t ht).1).trans hk
  have hrow : Rw M (x + 1938 + 145 * t) (kS F t) nz T := by
    rcases (h.2.2.2.1 t ht).2 with h8 | h8
    · rw [hk] at h8; exact absurd h8 (by decide)
    · exact h8.2
  refine Ct.mono (ca_restore1 hl0 M ht hk1 hrow.bX) ?_
  rintro o M' ⟨⟨h1, h2⟩⟩
  refine ⟨⟨by rw [h2, hrow.hi], h.rest ht (by rw [hk]; decide) h1 ⟨fun j hj => hs j hj, fun i h0 h1' => ?_, fun j h0 h6 => ?_⟩ rfl⟩⟩
  · funext j
    show (if i = 1 then _ else if i = 0 ∧ j = 6 then _ else F i j) = F i j
    rw [if_neg h1', if_neg (fun z => h0 z.1)]
  · show (if (0 : Nat) = 1 then _ else if (0 : Nat) = 0 ∧ j = 6 then _ else F 0 j) = F 0 j
    rw [if_neg (by decide), if_neg (fun z => h6 z.2)]
end
