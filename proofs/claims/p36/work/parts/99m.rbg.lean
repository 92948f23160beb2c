/-! THE REFERENCE: a calendar begins; readings go forth and keep the rest. -/
section
variable {l : Launch} {g : EG}
def zD (k : Nat) (D : Nat → Int32) : Nat → Int32 := fun j => if j < k then 0 else D j
/-- outside of an event's cells -/
def oA (a j : Nat) : Prop := j < a ∨ a + 136 ≤ j
theorem dE1_o {D : Nat → Int32} {a x y z w j : Nat} (h : oA a j) : dE1 D a x y z w j = D j := by
  unfold oA at h; unfold dE1
  rw [wS_o (by omega), wS_o (by omega), wS_o (by omega), wS_o (by omega), wS_o (by omega), wS_o (by omega), wS_o (by omega)]
theorem dRu_o {D : Nat → Int32} {a j : Nat} {r : Int32 × Int32 × Int32 × Int32} (h : oA a j) : dRu D a r j = D j := by
  unfold oA at h; unfold dRu
  rw [wS_o (by omega), wS_o (by omega), wS_o (by omega), wS_o (by omega)]
theorem dZ_o {D : Nat → Int32} {z j : Nat} {r : Int32 × Int32 × Int32} (hz : z < 3) (h : 12 ≤ j) : dZ D z r j = D j := by
  unfold dZ
  rw [wS_o (by omega), wS_o (by omega), wS_o (by omega)]
theorem pZn_gt {B : Nat → Nat} {n t t' : Nat} {r : Int32 × Int32 × Int32} (h : pZn B n t = .inr (r, t')) (ht : t ≤ n) : t + 1 ≤ t' ∧ t' ≤ n := by
  unfold pZn at h
  have t0 : t ≤ (if tIs B n t 45 = true then nx B n t else t) := by
    split
    · rename_i c
      have : t < n := by unfold tIs at c; simp at c; exact c.1
      have := nx_le (B := B) this; omega
    · omega
  rcases hp : pN B n 0 720 (if tIs B n t 45 = true then nx B n t else t) with e | ⟨v, t2⟩
  · rw [hp] at h; cases h
  · rw [hp] at h; dsimp only at h
    have g2 := pN_gt hp
    split at h
    · rename_i c
      have g3 := nx_le (B := B) (tH_n c (by omega))
      rcases hp2 : pN B n 0 364 (nx B n t2) with e | ⟨a, t3⟩
      · rw [hp2] at h; cases h
      · rw [hp2] at h; dsimp only at h
        have g4 := pN_gt hp2
        rcases hp3 : pN B n (nI a) 364 t3 with e | ⟨b, t4⟩
        · rw [hp3] at h; cases h
        · rw [hp3] at h; dsimp only at h
          have g5 := pN_gt hp3
          simp only [Sum.inr.injEq, Prod.mk.injEq] at h
          omega
    · simp only [Sum.inr.injEq, Prod.mk.injEq] at h
      omega
theorem pWd_gt {B : Nat → Nat} {n : Nat} : ∀ f {w r : Int32} {t t' : Nat}, t ≤ n → pWd B n f w t = .inr (r, t') → t ≤ t' ∧ t' ≤ n := by
  intro f
  induction f with
  | zero =>
    intro w r t t' ht h
    simp only [pWd, Sum.inr.injEq, Prod.mk.injEq] at h; omega
  | succ f ih =>
    intro w r t t' ht h
    rw [pWd_s] at h
    split at h
    · simp only [Sum.inr.injEq, Prod.mk.injEq] at h; omega
    · rename_i c
      split at h
      · cases h
      · have g := nx_le (B := B) (wdN_t c).1
        have := ih g.2 h
        omega
theorem pWk_gt {B : Nat → Nat} {n t t' : Nat} {r : Int32} (ht : t ≤ n) (h : pWk B n t = .inr (r, t')) : t ≤ t' ∧ t' ≤ n := by
  unfold pWk at h
  split at h
  · cases h
  · exact pWd_gt _ ht h
theorem pRu_gt {B : Nat → Nat} {n t t' : Nat} {r : Int32 × Int32 × Int32 × Int32} (h : pRu B n t = .inr (r, t')) : t + 1 ≤ t' ∧ t' ≤ n := by
  unfold pRu at h
  rcases hp : pN B n 1 9 t with e | ⟨v, t1⟩
  · rw [hp] at h; cases h
  · rw [hp] at h; dsimp only at h
    have g1 := pN_gt hp
    by_cases u0 : unN B n t1 = 0
    · rw [if_pos u0] at h; cases h
    · rw [if_neg u0] at h
      have u3 := nx_le (B := B) (unN_t u0).1
      rcases hw : (if unN B n t1 = 2 then pWk B n (nx B n t1) else .inr (0, nx B n t1)) with e | ⟨w, t2⟩
      · rw [hw] at h; cases h
      · rw [hw] at h; dsimp only at h
        have g2 : nx B n t1 ≤ t2 ∧ t2 ≤ n := by
          split at hw
          · exact pWk_gt u3.2 hw
          · simp only [Sum.inr.injEq, Prod.mk.injEq] at hw; omega
        split at h
        · rcases hp2 : pN B n 1 30 (nx B n t2) with e | ⟨y, t3⟩
          · rw [hp2] at h; cases h
          · rename_i c
            rw [hp2] at h; dsimp only at h
            have g3 := pN_gt hp2
            have g4 := nx_le (B := B) (tH_n c (by omega))
            simp only [Sum.inr.injEq, Prod.mk.injEq] at h
            omega
        · cases h
theorem pNo_o {B : Nat → Nat} {n a nd t t' : Nat} {D D' : Nat → Int32} (h : pNo B n a nd D t = .inr (D', t')) {j : Nat} (hj : oA a j) : D' j = D j := by
  unfold oA at hj
  unfold pNo at h
  rcases hp : pN B n 0 (nI nd - 1) t with e | ⟨v, t1⟩
  · rw [hp] at h; cases h
  · rw [hp] at h
    dsimp only at h
    split at h
    · cases h
    · simp only [Sum.inr.injEq, Prod.mk.injEq] at h
      rw [← h.1, wS_o (by omega)]
theorem pMo_o {B : Nat → Nat} {n a nd t t' : Nat} {D D' : Nat → Int32} (h3 : nd ≤ 30) (h : pMo B n a nd D t = .inr (D', t')) {j : Nat} (hj : oA a j) : D' j = D j := by
  unfold oA at hj
  unfold pMo at h
  rcases hp : pN B n 0 (nI nd - 1) t with e | ⟨v, t1⟩
  · rw [hp] at h; cases h
  · rw [hp] at h
    dsimp only at h
    have hv := pN_r hp
    have hvn := nd_v h3 hv.2.2.2.2.2 hv.2.1
    rcases hp2 : pN B n 0 1094 t1 with e | ⟨y, t2⟩
    · rw [hp2] at h; cases h
    · rw [hp2] at h
      dsimp only at h
      rcases hp3 : pN B n 0 1439 t2 with e | ⟨m, t3⟩
      · rw [hp3] at h; cases h
      · rw [hp3] at h
        simp only [Sum.inr.injEq, Prod.mk.injEq] at h
        rw [← h.1, wS_o (by omega), wS_o (by omega), wS_o (by omega)]
theorem pEx_go {B : Nat → Nat} {n a nd : Nat} (h3 : nd ≤ 30) : ∀ f {D D' : Nat → Int32} {t t' : Nat}, t ≤ n → pEx B n a nd f D t = .inr (D', t') → (t ≤ t' ∧ t' ≤ n) ∧ ∀ j, oA a j → D' j = D j := by
  intro f
  induction f with
  | zero =>
    intro D D' t t' ht h
    simp only [pEx, Sum.inr.injEq, Prod.mk.injEq] at h
    obtain ⟨rfl, rfl⟩ := h
    exact ⟨⟨Nat.le_refl _, ht⟩, fun _ _ => rfl⟩
  | succ f ih =>
    intro D D' t t' ht h
    rw [pEx_s] at h
    split at h
    · rename_i c
      have g := nx_le (B := B) (tH_n c (by omega))
      rcases hp : pNo B n a nd D (nx B n t) with e | ⟨D2, t2⟩
      · rw [hp] at h; cases h
      · rw [hp] at h; dsimp only at h
        have g2 := pNo_gt hp
        obtain ⟨g3, k⟩ := ih g2.2 h
        exact ⟨by omega, fun j hj => (k j hj).trans (pNo_o hp hj)⟩
    · split at h
      · rename_i c
        have g := nx_le (B := B) (tH_n c (by omega))
        rcases hp : pMo B n a nd D (nx B n t) with e | ⟨D2, t2⟩
        · rw [hp] at h; cases h
        · rw [hp] at h; dsimp only at h
          have g2 := pMo_gt hp
          obtain ⟨g3, k⟩ := ih g2.2 h
          exact ⟨by omega, fun j hj => (k j hj).trans (pMo_o h3 hp hj)⟩
      · simp only [Sum.inr.injEq, Prod.mk.injEq] at h
        obtain ⟨rfl, rfl⟩ := h
        exact ⟨⟨Nat.le_refl _, ht⟩, fun _ _ => rfl⟩
theorem pEv_go {B : Nat → Nat} {n a nz t t' : Nat} {D D' : Nat → Int32} (h : pEv B n a nz D t = .inr (D', t')) : (t + 1 ≤ t' ∧ t' ≤ n) ∧ ∀ j, oA a j → D' j = D j := by
  unfold pEv at h
  rcases hp : pN B n 0 1094 t with e | ⟨x, t1⟩
  · rw [hp] at h; cases h
  rw [hp] at h; dsimp only at h
  rcases hp2 : pN B n 0 1439 t1 with e | ⟨y, t2⟩
  · rw [hp2] at h; cases h
  rw [hp2] at h; dsimp only at h
  rcases hp3 : pN B n 1 1440 t2 with e | ⟨z, t3⟩
  · rw [hp3] at h; cases h
  rw [hp3] at h; dsimp only at h
  rcases hp4 : pN B n 0 (nI nz - 1) t3 with e | ⟨w, t4⟩
  · rw [hp4] at h; cases h
  rw [hp4] at h; dsimp only at h
  have g1 := pN_gt hp; have g2 := pN_gt hp2; have g3 := pN_gt hp3; have g4 := pN_gt hp4
  rcases hp5 : pER B n a (dE1 D a x y z w) t4 with e | ⟨D2, t5⟩
  · rw [hp5] at h; cases h
  rw [hp5] at h; dsimp only at h
  have g5 : (t4 ≤ t5 ∧ t5 ≤ n) ∧ ∀ j, oA a j → D2 j = D j := by
    unfold pER at hp5
    split at hp5
    · rename_i c
      have g := nx_le (B := B) (tH_n c (by omega))
      rcases hr : pRu B n (nx B n t4) with e | ⟨r, t6⟩
      · rw [hr] at hp5; cases hp5
      · rw [hr] at hp5
        have g6 := pRu_gt hr
        simp only [Sum.inr.injEq, Prod.mk.injEq] at hp5
        obtain ⟨rfl, rfl⟩ := hp5
        exact ⟨by omega, fun j hj => (dRu_o hj).trans (dE1_o hj)⟩
    · simp only [Sum.inr.injEq, Prod.mk.injEq] at hp5
      obtain ⟨rfl, rfl⟩ := hp5
      exact ⟨by omega, fun j hj => dE1_o hj⟩
  rcases hp6 : pEx B n a (rDt (fun j => D2 (a + j))).length (n + 1) D2 t5 with e | ⟨D3, t6⟩
  · rw [hp6] at h; cases h
  rw [hp6] at h; dsimp only at h
  obtain ⟨g6, k6⟩ := pEx_go (rDt_le _) _ g5.1.2 hp6
  simp only [Sum.inr.injEq, Prod.mk.injEq] at h
  obtain ⟨rfl, rfl⟩ := h
  exact ⟨by omega, fun j hj => by unfold oA at hj; rw [wS_o (by omega), k6 j hj, g5.2 j hj]⟩
end
