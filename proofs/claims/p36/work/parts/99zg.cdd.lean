/-! THE READER of the class: the draft against the pure draft. -/
section
variable {l : Launch} {g : EG}
theorem pEv_1 {B : Nat → Nat} {n a nz t : Nat} {D : Nat → Int32} : pEv B n a nz D t = match pE1 B n nz t with
    | .inl e => .inl e
    | .inr (d, t4) => match pER B n a (dE1 D a d.1 d.2.1 d.2.2.1 d.2.2.2) t4 with
      | .inl e => .inl e
      | .inr (D2, t5) => match pEx B n a (rDt (fun j => D2 (a + j))).length (n + 1) D2 t5 with
        | .inl e => .inl e
        | .inr (D3, t6) => .inr (wS D3 (a + 0) 1, t6) := by
  unfold pEv pE1
  rcases pN B n 0 1094 t with e | ⟨x, t1⟩
  · rfl
  dsimp only
  rcases pN B n 0 1439 t1 with e | ⟨y, t2⟩
  · rfl
  dsimp only
  rcases pN B n 1 1440 t2 with e | ⟨z, t3⟩
  · rfl
  dsimp only
  rcases pN B n 0 (nI nz - 1) t3 with e | ⟨w, t4⟩
  · rfl
  rfl
/-- the rows from ne on are not touched -/
def dZr (D : Nat → Int32) (ne : Nat) : Prop := ∀ e, ne ≤ e → e < 8 → ∀ j, j < 136 → D (12 + 136 * e + j) = 0
theorem dZr_0 {D : Nat → Int32} : dZr (zD 1100 D) 0 := fun e _ h2 j hj => if_pos (by omega)
theorem dZr_st {B : Nat → Nat} {n nz ne t t' : Nat} {D : Nat → Int32} {d : (Nat → Int32) × Nat × Nat} (h : pSt B n D nz ne t = .inr (d, t')) (hz : nz ≤ 3) (hd : dZr D ne) : dZr d.1 d.2.2 := by
  unfold pSt at h
  split at h
  · split at h
    · cases h
    · rename_i c3
      rcases hp : pZn B n (nx B n t) with e | ⟨a, t2⟩
      · rw [hp] at h; cases h
      · rw [hp] at h; dsimp only at h
        simp only [Sum.inr.injEq, Prod.mk.injEq] at h
        obtain ⟨rfl, rfl⟩ := h
        exact fun e h1 h2 j hj => (dZ_o (by omega) (by omega)).trans (hd e h1 h2 j hj)
  · split at h
    · split at h
      · cases h
      · rcases hp : pEv B n (12 + 136 * ne) nz D (nx B n t) with e | ⟨D2, t2⟩
        · rw [hp] at h; cases h
        · rw [hp] at h; dsimp only at h
          have g2 := pEv_go hp
          simp only [Sum.inr.injEq, Prod.mk.injEq] at h
          obtain ⟨rfl, rfl⟩ := h
          exact fun e h1 h2 j hj => (g2.2 _ (by unfold oA; dsimp only at h1; omega)).trans (hd e (by dsimp only at h1; omega) h2 j hj)
    · cases h
/-- the class's draft holds the pure one -/
def DR (M : EM) (r : Nat) (D : Nat → Int32) (nz ne : Nat) : Prop := mI M (r + 1) 0 = nI nz ∧ mI M r 1 = nI ne ∧ (∀ z, z < nz → ∀ j, j < 3 → mI M (r + 3 + z) j = D (4 * z + j)) ∧ (∀ e, e < ne → eR M (r + 7 + 5 * e) (12 + 136 * e) D ∧ D (12 + 136 * e) = 1) ∧ ∀ e, ne ≤ e → e < 8 → mI M (r + 7 + 5 * e) 0 = 0 ∧ mI M (r + 7 + 5 * e) 9 = -1
theorem DR.t {M M' : EM} {r nz ne : Nat} {D : Nat → Int32} (h : DR M r D nz ne) (hz : nz ≤ 3) (he : ne ≤ 8) (q : rT r M M') : DR M' r D nz ne := by
  obtain ⟨a, b, c, d, e⟩ := h
  refine ⟨(q.2.2.1 _ _ (by omega) (by omega)).trans a, (q.2.2.2.1 1 (by omega)).trans b, fun z h1 j h2 => (q.2.2.1 _ _ (by omega) (by omega)).trans (c z h1 j h2), fun k h1 => ⟨(d k h1).1.cg (fun cc j q1 q2 => q.2.2.1 _ _ (by omega) (by omega)) (fun s => by rw [q.2.1]), (d k h1).2⟩, fun k h1 h2 => ⟨(q.2.2.1 _ _ (by omega) (by omega)).trans (e k h1 h2).1, (q.2.2.1 _ _ (by omega) (by omega)).trans (e k h1 h2).2⟩⟩
theorem eR.row {M : EM} {a b : Nat} {D D' : Nat → Int32} (h : eR M a b D) (hD : ∀ j, 1 ≤ j → j < 136 → D' (b + j) = D (b + j)) : eR M a b D' := by
  obtain ⟨⟨x1, x2, x3, x4, x5, x6, x7⟩, e9, e0⟩ := h
  have er : rDt (fun j => D' (b + j)) = rDt (fun j => D (b + j)) := by
    unfold rDt
    dsimp only
    rw [hD 5 (by omega) (by omega), hD 1 (by omega) (by omega), hD 6 (by omega) (by omega), hD 8 (by omega) (by omega), hD 7 (by omega) (by omega)]
  refine ⟨⟨fun j q1 q2 => (x1 j q1 q2).trans (hD j q1 (by omega)).symm, by rw [er]; exact x2, x3.trans (hD 12 (by omega) (by omega)).symm, x4.trans (hD 13 (by omega) (by omega)).symm, fun k hk hb => ?_, fun s hs => (x6 s hs).trans (hD (14 + s) (by omega) (by omega)).symm, fun s k hs hk => (x7 s k hs hk).trans (hD (76 + 30 * s + k) (by omega) (by omega)).symm⟩, e9.trans (hD 9 (by omega) (by omega)).symm, e0⟩
  dsimp only at hb ⊢
  rw [hD 13 (by omega) (by omega)] at hb
  rw [hD (16 + k) (by omega) (by omega), hD (46 + k) (by omega) (by omega)]
  exact x5 k hk hb
end
