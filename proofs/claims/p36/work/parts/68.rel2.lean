/-! THE RELATION: one event of a side and of the store changes. -/
section
variable {l : Launch} {g : EG}
theorem zAt_lt {p z j e p' : Nat} (hp : p < 3) (hp' : p' < 3) (hz : z < 3) (hj : j < 4) (he : e < 8) : 24 ≤ zAt p z + j ∧ zAt p z + j < 3324 ∧ (zAt p z + j < eAt p' e ∨ eAt p' e + 136 ≤ zAt p z + j) := by
  unfold zAt eAt
  rcases (show p = 0 ∨ p = 1 ∨ p = 2 by omega) with rfl | rfl | rfl <;> rcases (show p' = 0 ∨ p' = 1 ∨ p' = 2 by omega) with rfl | rfl | rfl <;> omega
theorem eAt_rng {p e : Nat} (hp : p < 3) (he : e < 8) : 36 ≤ eAt p e ∧ eAt p e + 136 ≤ 3324 := by unfold eAt; omega
theorem Re.loc {M M' : EM} {a : Nat} {r : Nat → Int32} (h : Re M a r) (hl : ∀ c j, a ≤ c → c < a + 5 → mI M' c j = mI M c j ∧ mL M' c j = mL M c j) : Re M' a r := h.q (qE.loc hl)
theorem Rx0.mod {M M' : EM} {x nz q e : Nat} {s s' : Nat → Int32} (h : Rx0 M x s nz) (hnz : nz ≤ 3) (hq : q < 2) (he : e < 8) (hlg : RLg M' x s')
    (hM : ∀ c j, x < c → c < x + 144 → (c < vAd x q e ∨ vAd x q e + 5 ≤ c) → (c < vAd x 2 e ∨ vAd x 2 e + 5 ≤ c) → ¬ c = sAd x q + 47 → mI M' c j = mI M c j ∧ mL M' c j = mL M c j)
    (hs : ∀ j, 24 ≤ j → j < 3324 → (j < eAt q e ∨ eAt q e + 136 ≤ j) → (j < eAt 2 e ∨ eAt 2 e + 136 ≤ j) → s' j = s j)
    (hs2 : ∀ t, t < 2 → s' (1 + t) = s (1 + t)) (ha : ∀ w, w < 6 → mI M' (sAd x q + 47) w = s' (3 + 6 * q + w)) (ha' : ∀ q' w, q' < 2 → ¬ q' = q → w < 6 → s' (3 + 6 * q' + w) = s (3 + 6 * q' + w))
    (v1 : Re M' (vAd x q e) (rowE s' q e)) (v2 : Re M' (vAd x 2 e) (rowE s' 2 e)) : Rx0 M' x s' nz := by
  obtain ⟨g1, g2, g3, g4⟩ := h
  have eS : sAd x q + 47 = x + 95 + 48 * q := by show x + 48 + 48 * q + 47 = _; omega
  refine ⟨hlg, fun p hp => ?_, fun p hp e' he' => ?_, fun q' hq' => ?_⟩
  · obtain ⟨z1, z2⟩ := g2 p hp
    have r := pAd_rng (x := x) hp
    have n1 := pAd_ne (x := x) (p := p) (p' := q) (e' := e) hp (by omega) he
    have n2 := pAd_ne (x := x) (p := p) (p' := 2) (e' := e) hp (by omega) he
    have n3 : pAd x p + 5 ≤ sAd x q + 47 ∨ sAd x q + 48 ≤ pAd x p := by
      rw [eS]
      unfold pAd
      split <;> omega
    refine ⟨?_, fun z hz j hj => ?_⟩
    · rw [(hM (pAd x p) 0 (by omega) (by omega) (by omega) (by omega) (by omega)).1]; exact z1
    · rw [(hM (pAd x p + 2 + z) j (by omega) (by omega) (by omega) (by omega) (by omega)).1, z2 z hz j hj]
      have l1 := zAt_lt (p := p) (z := z) (j := j) (e := e) (p' := q) hp (by omega) (by omega) hj he
      have l2 := zAt_lt (p := p) (z := z) (j := j) (e := e) (p' := 2) hp (by omega) (by omega) hj he
      exact (hs _ l1.1 l1.2.1 l1.2.2 l2.2.2).symm
  · by_cases c1 : p = q ∧ e' = e
    · obtain ⟨rfl, rfl⟩ := c1; exact v1
    · by_cases c2 : p = 2 ∧ e' = e
      · obtain ⟨rfl, rfl⟩ := c2; exact v2
      · have r := vAd_rng (x := x) hp he'
        have n1 := vAd_ne (x := x) (p := p) (e := e') (p' := q) (e' := e) hp he' (by omega) he c1
        have n2 := vAd_ne (x := x) (p := p) (e := e') (p' := 2) (e' := e) hp he' (by omega) he c2
        have n3 : vAd x p e' + 5 ≤ sAd x q + 47 ∨ sAd x q + 48 ≤ vAd x p e' := by
          rw [eS]
          unfold vAd pAd
          rcases (show p = 0 ∨ p = 1 ∨ p = 2 by omega) with rfl | rfl | rfl <;> rcases (show q = 0 ∨ q = 1 by omega) with rfl | rfl <;> simp <;> omega
        refine ((g3 p hp e' he').loc (M' := M') (fun c j hc1 hc2 => hM c j (by omega) (by omega) (by omega) (by omega) (by omega))).c (fun j hj _ _ => ?_)
        have r2 := eAt_rng hp he'
        have m1 : (eAt p e' + j < eAt q e ∨ eAt q e + 136 ≤ eAt p e' + j) := eAt_ne hp (by omega) he' he hj (by omega)
        have m2 : (eAt p e' + j < eAt 2 e ∨ eAt 2 e + 136 ≤ eAt p e' + j) := eAt_ne hp (by omega) he' he hj (by omega)
        exact hs (eAt p e' + j) (by omega) (by omega) m1 m2
  · obtain ⟨t1, t2⟩ := g4 q' hq'
    have a1 : ∀ (q e : Nat), q < 3 → e < 8 → sAd x q' < vAd x q e ∨ vAd x q e + 5 ≤ sAd x q' := by
      intro q e h1 h2
      show x + 48 + 48 * q' < _ ∨ _ ≤ x + 48 + 48 * q'
      unfold vAd pAd
      rcases (show q = 0 ∨ q = 1 ∨ q = 2 by omega) with rfl | rfl | rfl <;> rcases (show q' = 0 ∨ q' = 1 by omega) with rfl | rfl <;> simp <;> omega
    have a2 : ∀ (q e : Nat), q < 3 → e < 8 → sAd x q' + 47 < vAd x q e ∨ vAd x q e + 5 ≤ sAd x q' + 47 := by
      intro q e h1 h2
      show x + 48 + 48 * q' + 47 < _ ∨ _ ≤ x + 48 + 48 * q' + 47
      unfold vAd pAd
      rcases (show q = 0 ∨ q = 1 ∨ q = 2 by omega) with rfl | rfl | rfl <;> rcases (show q' = 0 ∨ q' = 1 by omega) with rfl | rfl <;> simp <;> omega
    have e1 : sAd x q' = x + 48 + 48 * q' := rfl
    have e2 : sAd x q = x + 48 + 48 * q := rfl
    refine ⟨?_, fun w hw => ?_⟩
    · rw [(hM (sAd x q') 1 (by omega) (by omega) (a1 q e (by omega) he) (a1 2 e (by omega) he) (by omega)).1, hs2 q' hq']; exact t1
    · by_cases hqq : q' = q
      · subst hqq; exact ha w hw
      · rw [(hM (sAd x q' + 47) w (by omega) (by omega) (a2 q e (by omega) he) (a2 2 e (by omega) he) (by omega)).1, ha' q' w hq' hqq hw]; exact t2 w hw
/-- a change more -/
theorem RLg.chg {M M' : EM} {x c : Nat} {s s' : Nat → Int32} {ev : Int32} (h : RLg M x s) (hc : s 0 = nI c) (hcb : c + 1 < 2 ^ 20) (h0 : mI M' x 0 = nI (c + 1)) (h1 : mI M' (x + 144) ((c + 1) % 8) = ev) (h2 : ∀ j, ¬ j = (c + 1) % 8 → mI M' (x + 144) j = mI M (x + 144) j) (hs : ∀ j, (j = 0 ∨ j = 23 ∨ (15 ≤ j ∧ j < 23)) → s' j = rChg s ev j) : RLg M' x s' := by
  obtain ⟨c', L, e0, c1, eL, hL, hLc, hx, hl⟩ := h
  have : c = c' := (nI_eq (by omega) (by omega)).mp (hc.symm.trans e0)
  subst this
  have g0 : s' 0 = nI (c + 1) := by rw [hs 0 (Or.inl rfl)]; show s 0 + 1 = _; rw [e0, nI_1]
  by_cases h8 : L = 8
  · have e8 : s 23 = 8 := by rw [eL, h8]; rfl
    refine ⟨c + 1, 8, g0, hcb, ?_, Nat.le_refl _, by omega, h0, fun i hi => ?_⟩
    · rw [hs 23 (by omega)]; unfold rChg; rw [if_neg (by omega), if_pos e8, if_neg (by omega), if_neg (by omega)]; exact e8
    · rw [hs (15 + i) (by omega)]
      unfold rChg
      rw [if_neg (by omega), if_pos e8]
      by_cases h7 : i = 7
      · subst h7
        rw [if_neg (by omega), if_pos rfl, show (c + 1 - 8 + 1 + 7) % 8 = (c + 1) % 8 by omega, h1]
      · rw [if_pos (by omega), show 15 + i + 1 = 15 + (i + 1) by omega, hl (i + 1) (by omega), h2 _ (by omega), h8, show (c - 8 + 1 + (i + 1)) = c + 1 - 8 + 1 + i by omega]
  · have e8 : ¬ s 23 = 8 := by rw [eL]; exact fun h => h8 ((nI_eq (b := 8) (by omega) (by omega)).mp h)
    refine ⟨c + 1, L + 1, g0, hcb, ?_, by omega, by omega, h0, fun i hi => ?_⟩
    · rw [hs 23 (by omega)]; unfold rChg; rw [if_neg (by omega), if_neg e8, if_pos rfl, eL, nI_1]
    · rw [hs (15 + i) (by omega)]
      unfold rChg
      rw [if_neg (by omega), if_neg e8, if_neg (by omega), eL, nI_clamp (by omega)]
      by_cases h7 : i = L
      · subst h7
        rw [if_pos rfl, show (c + 1 - (i + 1) + 1 + i) % 8 = (c + 1) % 8 by omega, h1]
      · rw [if_neg (by omega), hl i (by omega), h2 _ (by omega), show (c - L + 1 + i) = c + 1 - (L + 1) + 1 + i by omega]
theorem RLg.c {M M' : EM} {x : Nat} {s s' : Nat → Int32} (h : RLg M x s) (h0 : mI M' x 0 = mI M x 0) (h1 : ∀ j, mI M' (x + 144) j = mI M (x + 144) j) (hs : ∀ j, (j = 0 ∨ j = 23 ∨ (15 ≤ j ∧ j < 23)) → s' j = s j) : RLg M' x s' := by
  obtain ⟨c, L, e0, c1, eL, hL, hLc, hx, hl⟩ := h
  exact ⟨c, L, (hs 0 (Or.inl rfl)).trans e0, c1, (hs 23 (by omega)).trans eL, hL, hLc, h0.trans hx, fun i hi => by rw [hs (15 + i) (by omega), h1]; exact hl i hi⟩
end
