/-! THE PAIR, 1: the invariant of the class's object and the reference's cells. -/
section
variable {l : Launch} {g : EG}
/-- two rows that say the same within a row's length -/
def rAg (s' s : Nat → Int32) : Prop := ∀ j, j < 3324 → s' j = s j
theorem eAt_lt {p e j : Nat} (hp : p < 3) (he : e < 8) (hj : j < 136) : eAt p e + j < 3324 := by show 24 + 1100 * p + 12 + 136 * e + j < 3324; omega
theorem rAg.e {s s' : Nat → Int32} (h : rAg s' s) {p e j : Nat} (hp : p < 3) (he : e < 8) (hj : j < 136) : s' (eAt p e + j) = s (eAt p e + j) := h _ (eAt_lt hp he hj)
theorem Rx.ag {M : EM} {x nz : Nat} {s s' : Nat → Int32} (h : Rx M x s nz) (hnz : nz ≤ 3) (ha : rAg s' s) : Rx M x s' nz := by
  obtain ⟨⟨⟨c, L, h1, h2, h3, h4, h5, h6, h7⟩, hZ, hV, hA⟩, hB⟩ := h
  refine ⟨⟨⟨c, L, (ha 0 (by omega)).trans h1, h2, (ha 23 (by omega)).trans h3, h4, h5, h6, fun i hi => (ha (15 + i) (by omega)).trans (h7 i hi)⟩, fun p hp => ⟨(hZ p hp).1, fun z hz j hj => ?_⟩, fun p hp e he => (hV p hp e he).c (fun j hj _ _ => ha.e hp he hj), fun q hq => ⟨((hA q hq).1).trans (ha (1 + q) (by omega)).symm, fun w hw => ((hA q hq).2 w hw).trans (ha (3 + 6 * q + w) (by omega)).symm⟩⟩, fun q hq => ?_⟩
  · refine ((hZ p hp).2 z hz j hj).trans (ha _ ?_).symm
    show 24 + 1100 * p + 4 * z + j < 3324
    omega
  · obtain ⟨b1, b2⟩ := hB q hq
    refine ⟨b1.trans ?_, b2.trans ?_⟩
    · exact e_bits_c 8 (fun e he => by rw [ha.e (j := 10) (by omega) he (by omega), ha.e (j := 11) (by omega) he (by omega)])
    · exact e_bits_c 8 (fun e he => by rw [ha.e (j := 10) (by omega) he (by omega)])
theorem sIv.ag {s s' : Nat → Int32} {nz : Nat} (h : sIv s nz) (ha : rAg s' s) : sIv s' nz := by
  obtain ⟨⟨c, L, h1, h2, h3, h4, h5, h6⟩, -, -, -, h7, -⟩ := id h
  refine h.cg ⟨⟨c, L, (ha 0 (by omega)).trans h1, h2, (ha 23 (by omega)).trans h3, h4, h5, fun q hq => ?_⟩, fun i L' hL hi hL8 => ?_⟩ (fun p e i hp he hi => ha.e hp he hi)
  · obtain ⟨t, t1, t2⟩ := h6 q hq
    exact ⟨t, (ha (1 + q) (by omega)).trans t1, t2⟩
  · rw [ha 23 (by omega)] at hL
    rw [ha (15 + i) (by omega)]
    exact h7 i L' hL hi hL8
theorem sZo.ag {s s' : Nat → Int32} {nz : Nat} (h : sZo s nz) (hnz : nz ≤ 3) (ha : rAg s' s) : sZo s' nz := fun p hp z hz => by
  obtain ⟨k, k1, k2⟩ := h p hp z hz
  exact ⟨k, k1, (ha _ (by show 24 + 1100 * p + 4 * z < 3324; omega)).trans k2⟩
/-- a row of the class and its row of the reference; the clock is at most T -/
def Rw (M : EM) (x : Nat) (s : Nat → Int32) (nz T : Nat) : Prop := Rx M x s nz ∧ sIv s nz ∧ sZo s nz ∧ ∃ k, s 0 = nI k ∧ k ≤ T
theorem Rw.nz {M : EM} {x nz T : Nat} {s : Nat → Int32} (h : Rw M x s nz T) : 1 ≤ nz ∧ nz ≤ 3 := h.2.1.2.2.2.2.2
theorem Rw.ag {M : EM} {x nz T : Nat} {s s' : Nat → Int32} (h : Rw M x s nz T) (ha : rAg s' s) : Rw M x s' nz T := by
  obtain ⟨k, k1, k2⟩ := h.2.2.2
  exact ⟨h.1.ag h.nz.2 ha, h.2.1.ag ha, h.2.2.1.ag h.nz.2 ha, k, (ha 0 (by omega)).trans k1, k2⟩
theorem Rw.q {M M' : EM} {a b nz T : Nat} {s : Nat → Int32} (h : Rw M b s nz T) (q : qX M' a M b) : Rw M' a s nz T := ⟨h.1.q h.nz.2 q, h.2⟩
theorem Rw.T {M : EM} {x nz T T' : Nat} {s : Nat → Int32} (h : Rw M x s nz T) (hT : T ≤ T') : Rw M x s nz T' := by
  obtain ⟨k, k1, k2⟩ := h.2.2.2
  exact ⟨h.1, h.2.1, h.2.2.1, k, k1, Nat.le_trans k2 hT⟩
/-- the same cells between two places -/
def eqR (M M' : EM) (lo hi : Nat) : Prop := ∀ c, lo ≤ c → c < hi → ∀ j, mI M' c j = mI M c j ∧ mL M' c j = mL M c j
theorem eqR.nr {M M' : EM} {lo hi lo' hi' : Nat} (h : eqR M M' lo hi) (h1 : lo ≤ lo') (h2 : hi' ≤ hi) : eqR M M' lo' hi' := fun c c1 c2 => h c (by omega) (by omega)
theorem eqR.tr {M M' M'' : EM} {lo hi : Nat} (h : eqR M M' lo hi) (h' : eqR M' M'' lo hi) : eqR M M'' lo hi := fun c c1 c2 j => ⟨((h' c c1 c2 j).1).trans (h c c1 c2 j).1, ((h' c c1 c2 j).2).trans (h c c1 c2 j).2⟩
theorem e_fr.eq {M M' : EM} {lo hi a b : Nat} (h : e_fr M M' lo hi) (hh : b ≤ lo ∨ hi ≤ a) : eqR M M' a b := fun c c1 c2 j => h.2 c j (by omega)
theorem eqR.x {M M' : EM} {lo hi a : Nat} (h : eqR M M' lo hi) (h1 : lo ≤ a) (h2 : a + 145 ≤ hi) : qX M' a M a := qX.loc (fun c j c1 c2 => h c (by omega) (by omega) j)
theorem Rw.eq {M M' : EM} {x nz T lo hi : Nat} {s : Nat → Int32} (h : Rw M x s nz T) (he : eqR M M' lo hi) (h1 : lo ≤ x) (h2 : x + 145 ≤ hi) : Rw M' x s nz T := h.q (he.x h1 h2)
/-- the place in the ring of the history's row i of c, the next one being a -/
def hIx (a c i : Nat) : Nat := (a + 12 - c + i) % 12
def pS (F : FM) (i : Nat) : Nat → Int32 := fun k => F 2 (3324 * i + k)
def kS (F : FM) (t : Nat) : Nat → Int32 := fun k => F 3 (3324 * t + k)
/-- THE INVARIANT: the class's object at x against the reference's cells F -/
def JC (M : EM) (x : Nat) (F : FM) (nz a c nb T : Nat) (B : Nat → Nat) : Prop :=
  (Rw M (x + 50) (F 1) nz T ∧ F 0 1 = nI nz) ∧ (HH M x a c ∧ F 0 6 = nI c) ∧ (∀ i, i < c → Rw M (x + 197 + 145 * hIx a c i) (pS F i) nz T) ∧
  (∀ t, t < 2 → mI M (x + 2228) t = F 4 t ∧ (F 4 t = 0 ∨ (F 4 t = 1 ∧ Rw M (x + 1938 + 145 * t) (kS F t) nz T))) ∧ (BT M (x + 48) B nb ∧ BF F B nb) ∧ (mI M (x + 1) 2 = F 0 16 ∧ mI M (x + 1) 3 = F 0 17) ∧ ∀ z, z < 3 → mI M (x + 4 + z) 3 = 0
theorem BT.eq {M M' : EM} {a nb lo hi : Nat} {B : Nat → Nat} (h : BT M a B nb) (he : eqR M M' lo hi) (h1 : lo ≤ a) (h2 : a + 2 ≤ hi) : BT M' a B nb :=
  ⟨⟨h.1.1, fun j hj => ⟨((he (a + 1) (by omega) (by omega) j).1).trans (h.1.2 j hj).1, (h.1.2 j hj).2⟩⟩, ((he a (by omega) (by omega) 0).1).trans h.2⟩
theorem HH.eq {M M' : EM} {x a c lo hi : Nat} (h : HH M x a c) (he : eqR M M' lo hi) (h1 : lo ≤ x + 195) (h2 : x + 196 ≤ hi) : HH M' x a c :=
  ⟨((he (x + 195) (by omega) (by omega) 1).1).trans h.1, h.2.1, ((he (x + 195) (by omega) (by omega) 0).1).trans h.2.2.1, h.2.2.2⟩
theorem hIx_lt (a c i : Nat) : hIx a c i < 12 := Nat.mod_lt _ (by omega)
theorem JC.eq {M M' : EM} {x nz a c nb T : Nat} {F : FM} {B : Nat → Nat} (h : JC M x F nz a c nb T B) (he : eqR M M' x (x + 2229)) : JC M' x F nz a c nb T B := by
  obtain ⟨⟨h1, h1'⟩, ⟨h2, h2'⟩, h3, h4, ⟨h5, h5'⟩, ⟨h6, h6'⟩, h7⟩ := h
  refine ⟨⟨h1.eq he (by omega) (by omega), h1'⟩, ⟨h2.eq he (by omega) (by omega), h2'⟩, fun i hi => (h3 i hi).eq he (by omega) (by have := hIx_lt a c i; omega), fun t ht => ⟨((he (x + 2228) (by omega) (by omega) t).1).trans (h4 t ht).1, ?_⟩, ⟨h5.eq he (by omega) (by omega), h5'⟩, ⟨((he (x + 1) (by omega) (by omega) 2).1).trans h6, ((he (x + 1) (by omega) (by omega) 3).1).trans h6'⟩, fun z hz => ((he (x + 4 + z) (by omega) (by omega) 3).1).trans (h7 z hz)⟩
  rcases (h4 t ht).2 with h8 | ⟨h8, h9⟩
  · exact Or.inl h8
  · exact Or.inr ⟨h8, h9.eq he (by omega) (by omega)⟩
theorem JC.T {M : EM} {x nz a c nb T T' : Nat} {F : FM} {B : Nat → Nat} (h : JC M x F nz a c nb T B) (hT : T ≤ T') : JC M x F nz a c nb T' B := by
  obtain ⟨⟨h1, h1'⟩, h2, h3, h4, h5⟩ := h
  refine ⟨⟨h1.T hT, h1'⟩, h2, fun i hi => (h3 i hi).T hT, fun t ht => ⟨(h4 t ht).1, ?_⟩, h5⟩
  rcases (h4 t ht).2 with h8 | ⟨h8, h9⟩
  · exact Or.inl h8
  · exact Or.inr ⟨h8, h9.T hT⟩
/-- what the invariant reads of the reference -/
theorem JC.rk {M : EM} {x nz a c nb T : Nat} {F F' : FM} {B : Nat → Nat} (h : JC M x F nz a c nb T B) (hk : rKp F F') : JC M x F' nz a c nb T B := by
  obtain ⟨k1, k2⟩ := hk
  have e1 : F' 1 = F 1 := k1 1 (by omega)
  have e2 : F' 2 = F 2 := k1 2 (by omega)
  have e3 : F' 3 = F 3 := k1 3 (by omega)
  have e4 : F' 4 = F 4 := k1 4 (by omega)
  have e6 : F' 6 = F 6 := k1 6 (by omega)
  have p2 : ∀ i, pS F' i = pS F i := fun i => by unfold pS; rw [e2]
  have p3 : ∀ i, kS F' i = kS F i := fun i => by unfold kS; rw [e3]
  unfold JC BF at h ⊢
  rw [e1, e4, e6, k2 1 (by omega), k2 6 (by omega), k2 10 (by omega), k2 16 (by omega), k2 17 (by omega)]
  refine ⟨h.1, h.2.1, fun i hi => by rw [p2]; exact h.2.2.1 i hi, fun t ht => by rw [p3]; exact h.2.2.2.1 t ht, h.2.2.2.2⟩
theorem JC.qh {M : EM} {x nz a c nb T : Nat} {F : FM} {B : Nat → Nat} (h : JC M x F nz a c nb T B) : QH M x F nz := ⟨h.1.1.1, h.1.1.2.1, h.1.1.2.2.1, h.1.2⟩
theorem JC.wf {M : EM} {x nz a c nb T : Nat} {F : FM} {B : Nat → Nat} (h : JC M x F nz a c nb T B) : rWf F := fun p e hp he h1 => by
  obtain ⟨r1, ⟨z, z1, z2⟩, -⟩ := ((h.1.1.2.1).2.1 p hp e he).2 h1
  exact ⟨r1, z, by have := h.1.1.nz; omega, z2⟩
theorem JC.lg {M : EM} {x nz a c nb T : Nat} {F : FM} {B : Nat → Nat} (h : JC M x F nz a c nb T B) : rLog F := h.1.1.2.1.1
end
