/-! THE RELATION of the class to the row of the reference. -/
section
variable {l : Launch} {g : EG}
/-- what an event that is there has -/
def ReL (M : EM) (a : Nat) (r : Nat → Int32) : Prop := (∀ j, 1 ≤ j → j ≤ 8 → mI M a j = r j) ∧ eDt M a (rDt r) ∧ mI M a 11 = r 12 ∧ mI M a 12 = r 13 ∧ (∀ k, k < 30 → e_bit (r 13) (nI k) → mI M (a + 2) k = r (16 + k) * 1440 + r (46 + k)) ∧ (∀ s, s < 2 → mI M (a + 3) s = r (14 + s)) ∧ ∀ s k, s < 2 → k < 30 → e_giv (mL M (a + 4) s) (nI k) = r (76 + 30 * s + k)
def Re (M : EM) (a : Nat) (r : Nat → Int32) : Prop := mI M a 0 = r 0 ∧ mI M a 9 = r 9 ∧ (r 0 = 1 → ReL M a r)
theorem eDt.q {M M' : EM} {a b : Nat} {L : List Nat} (h : eDt M b L) (q : qE M' a M b) : eDt M' a L := ⟨h.1, (q.1 10 (by omega)).trans h.2.1, fun j hj => (q.2.1 j (by have := h.1; omega)).trans (h.2.2 j hj)⟩
theorem ReL.q {M M' : EM} {a b : Nat} {r : Nat → Int32} (h : ReL M b r) (q : qE M' a M b) : ReL M' a r := by
  obtain ⟨h1, h2, h3, h4, h5, h6, h7⟩ := h
  refine ⟨fun j j1 j8 => (q.1 j (by omega)).trans (h1 j j1 j8), h2.q q, (q.1 11 (by omega)).trans h3, (q.1 12 (by omega)).trans h4, fun k hk hb => (q.2.2.1 k hk).trans (h5 k hk hb), fun s hs => (q.2.2.2.1 s hs).trans (h6 s hs), fun s k hs hk => ?_⟩
  rw [q.2.2.2.2 s hs]
  exact h7 s k hs hk
theorem Re.q {M M' : EM} {a b : Nat} {r : Nat → Int32} (h : Re M b r) (q : qE M' a M b) : Re M' a r := ⟨(q.1 0 (by omega)).trans h.1, (q.1 9 (by omega)).trans h.2.1, fun h0 => (h.2.2 h0).q q⟩
theorem rDt_c {r r' : Nat → Int32} (h : ∀ j, j ≤ 8 → r' j = r j) : rDt r' = rDt r := by
  unfold rDt
  rw [h 5 (by omega), h 1 (by omega), h 6 (by omega), h 8 (by omega), h 7 (by omega)]
/-- the row's flags of change don't matter -/
theorem Re.c {M : EM} {a : Nat} {r r' : Nat → Int32} (h : Re M a r) (hr : ∀ j, j < 136 → ¬ j = 10 → ¬ j = 11 → r' j = r j) : Re M a r' := by
  refine ⟨by rw [hr 0 (by omega) (by omega) (by omega)]; exact h.1, by rw [hr 9 (by omega) (by omega) (by omega)]; exact h.2.1, fun h0 => ?_⟩
  rw [hr 0 (by omega) (by omega) (by omega)] at h0
  obtain ⟨h1, h2, h3, h4, h5, h6, h7⟩ := h.2.2 h0
  refine ⟨fun j j1 j8 => (h1 j j1 j8).trans (hr j (by omega) (by omega) (by omega)).symm, ?_, h3.trans (hr 12 (by omega) (by omega) (by omega)).symm, h4.trans (hr 13 (by omega) (by omega) (by omega)).symm, fun k hk hb => ?_, fun s hs => (h6 s hs).trans (hr (14 + s) (by omega) (by omega) (by omega)).symm, fun s k hs hk => (h7 s k hs hk).trans (hr (76 + 30 * s + k) (by omega) (by omega) (by omega)).symm⟩
  · rw [rDt_c (fun j hj => hr j (by omega) (by omega) (by omega))]; exact h2
  · rw [hr 13 (by omega) (by omega) (by omega)] at hb
    rw [h5 k hk hb, hr (16 + k) (by omega) (by omega) (by omega), hr (46 + k) (by omega) (by omega) (by omega)]
/-- the addresses of a place and its events -/
def pAd (x p : Nat) : Nat := if p = 2 then x + 1 else x + 49 + 48 * p
def vAd (x p e : Nat) : Nat := pAd x p + 6 + 5 * e
theorem pAd_2 (x : Nat) : pAd x 2 = x + 1 := rfl
theorem pAd_q {x q : Nat} (h : q < 2) : pAd x q = x + 49 + 48 * q := if_neg (by omega)
theorem vAd_2 (x e : Nat) : vAd x 2 e = x + 1 + 6 + 5 * e := rfl
theorem vAd_q {x q e : Nat} (h : q < 2) : vAd x q e = x + 49 + 48 * q + 6 + 5 * e := by unfold vAd; rw [pAd_q h]
theorem pAd_rng {x p : Nat} (hp : p < 3) : x + 1 ≤ pAd x p ∧ pAd x p + 46 ≤ x + 144 := by unfold pAd; split <;> omega
theorem vAd_rng {x p e : Nat} (hp : p < 3) (he : e < 8) : x + 7 ≤ vAd x p e ∧ vAd x p e + 5 ≤ x + 144 := by have := pAd_rng (x := x) hp; unfold vAd; omega
theorem vAd_ne {x p e p' e' : Nat} (hp : p < 3) (he : e < 8) (hp' : p' < 3) (he' : e' < 8) (h : ¬ (p = p' ∧ e = e')) : vAd x p e + 5 ≤ vAd x p' e' ∨ vAd x p' e' + 5 ≤ vAd x p e := by
  unfold vAd pAd
  rcases (show p = 0 ∨ p = 1 ∨ p = 2 by omega) with rfl | rfl | rfl <;> rcases (show p' = 0 ∨ p' = 1 ∨ p' = 2 by omega) with rfl | rfl | rfl <;> simp <;> omega
theorem pAd_ne {x p p' e' : Nat} (hp : p < 3) (hp' : p' < 3) (he' : e' < 8) : pAd x p + 5 ≤ vAd x p' e' ∨ vAd x p' e' + 5 ≤ pAd x p := by
  unfold vAd pAd
  rcases (show p = 0 ∨ p = 1 ∨ p = 2 by omega) with rfl | rfl | rfl <;> rcases (show p' = 0 ∨ p' = 1 ∨ p' = 2 by omega) with rfl | rfl | rfl <;> simp <;> omega
abbrev sAd (x q : Nat) : Nat := x + 48 + 48 * q
def rowE (s : Nat → Int32) (p e : Nat) : Nat → Int32 := fun j => s (eAt p e + j)
/-- the clock and its log -/
def RLg (M : EM) (x : Nat) (s : Nat → Int32) : Prop := ∃ c L, s 0 = nI c ∧ c < 2 ^ 20 ∧ s 23 = nI L ∧ L ≤ 8 ∧ L ≤ c ∧ mI M x 0 = nI c ∧ ∀ i, i < L → s (15 + i) = mI M (x + 144) ((c - L + 1 + i) % 8)
def RZ (M : EM) (x : Nat) (s : Nat → Int32) (nz : Nat) : Prop := ∀ p, p < 3 → mI M (pAd x p) 0 = nI nz ∧ ∀ z, z < nz → ∀ j, j < 4 → mI M (pAd x p + 2 + z) j = s (zAt p z + j)
def RV (M : EM) (x : Nat) (s : Nat → Int32) : Prop := ∀ p, p < 3 → ∀ e, e < 8 → Re M (vAd x p e) (rowE s p e)
def RA (M : EM) (x : Nat) (s : Nat → Int32) : Prop := ∀ q, q < 2 → mI M (sAd x q) 1 = s (1 + q) ∧ ∀ w, w < 6 → mI M (sAd x q + 47) w = s (3 + 6 * q + w)
/-- but for the bits of change -/
def Rx0 (M : EM) (x : Nat) (s : Nat → Int32) (nz : Nat) : Prop := RLg M x s ∧ RZ M x s nz ∧ RV M x s ∧ RA M x s
def bCh (s : Nat → Int32) (q : Nat) : Int32 := e_bits (fun e => decide (s (eAt q e + 10) = 1 ∨ s (eAt q e + 11) = 1)) 8
def bCt (s : Nat → Int32) (q : Nat) : Int32 := e_bits (fun e => decide (s (eAt q e + 10) = 1)) 8
def RB (M : EM) (x : Nat) (s : Nat → Int32) : Prop := ∀ q, q < 2 → mI M (sAd x q) 2 = bCh s q ∧ mI M (sAd x q) 3 = bCt s q
def Rx (M : EM) (x : Nat) (s : Nat → Int32) (nz : Nat) : Prop := Rx0 M x s nz ∧ RB M x s
/-- an event's row is in its ranges -/
def rEv (r : Nat → Int32) (nz : Nat) : Prop := rOk r ∧ (∃ z, z < nz ∧ r 4 = nI z) ∧ (∃ k, k < 1440 ∧ r 2 = nI k) ∧ (∃ k, 1 ≤ k ∧ k ≤ 1440 ∧ r 3 = nI k) ∧ (∃ k, k < 2 ^ (rDt r).length ∧ r 12 = nI k) ∧ (∀ k, k < 30 → e_bit (r 13) (nI k) → ∃ d m, d < 1095 ∧ m < 1440 ∧ r (16 + k) = nI d ∧ r (46 + k) = nI m) ∧ (∀ s, s < 2 → ∃ k, k < 4 ∧ r (14 + s) = nI k) ∧ ∀ s k, s < 2 → k < 30 → ∃ v, v < 4 ∧ r (76 + 30 * s + k) = nI v
/-- the row's own invariant -/
def sIv (s : Nat → Int32) (nz : Nat) : Prop := sLog s ∧ (∀ p, p < 3 → ∀ e, e < 8 → (s (eAt p e) = 0 ∨ s (eAt p e) = 1) ∧ (s (eAt p e) = 1 → rEv (rowE s p e) nz)) ∧ (∀ e, e < 8 → s (eAt 2 e) = 0 → s (eAt 2 e + 9) = -1) ∧ (∀ q, q < 2 → ∀ e, e < 8 → (s (eAt q e + 10) = 0 ∨ s (eAt q e + 10) = 1) ∧ (s (eAt q e + 11) = 0 ∨ s (eAt q e + 11) = 1) ∧ (s (eAt q e + 11) = 1 → s (eAt q e + 10) = 0 → s (eAt q e) = 1)) ∧ (∀ i L, s 23 = nI L → i < L → L ≤ 8 → s (15 + i) = -1 ∨ ∃ e, e < 8 ∧ s (15 + i) = nI e) ∧ 1 ≤ nz ∧ nz ≤ 3
end
