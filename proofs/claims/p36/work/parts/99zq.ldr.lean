/-! THE RELATION after a load. -/
section
variable {l : Launch} {g : EG}
theorem sCp_at {s D : Nat → Int32} {p j : Nat} (hp : p < 3) (hj : j < 1100) : sCp s D 1100 (24 + 1100 * p + j) = D j := by
  unfold sCp
  rw [if_neg (by omega)]
  rcases (show p = 0 ∨ p = 1 ∨ p = 2 by omega) with rfl | rfl | rfl
  · rw [if_pos (by omega)]; exact congrArg D (by omega)
  · rw [if_neg (by omega), if_pos (by omega)]; exact congrArg D (by omega)
  · rw [if_neg (by omega), if_neg (by omega), if_pos (by omega)]; exact congrArg D (by omega)
theorem sCp_lo {s D : Nat → Int32} {k j : Nat} (hj : j < 24) : sCp s D k j = 0 := if_pos hj
theorem dTk_e {D : Nat → Int32} {nz ne e j : Nat} (he : e < 8) (hj : j < 136) : dTk D nz ne (12 + 136 * e + j) = if j = 9 ∧ ne ≤ e then -1 else D (12 + 136 * e + j) := by
  unfold dTk dEv dZn
  by_cases c : j = 9 ∧ ne ≤ e
  · rw [if_pos c, if_pos (by omega)]
  · rw [if_neg c, if_neg (by omega), if_neg (by omega)]
theorem dTk_z {D : Nat → Int32} {nz ne j : Nat} (hj : j < 12) : dTk D nz ne j = dZn D nz j := by
  unfold dTk dEv
  rw [if_neg (by omega)]
def sLd (s D : Nat → Int32) (nz ne : Nat) : Nat → Int32 := sCp s (dTk D nz ne) 1100
def nZ (nz : Nat) : Nat := if nz = 0 then 1 else nz
theorem nZ_r {nz : Nat} (h : nz ≤ 3) : 1 ≤ nZ nz ∧ nZ nz ≤ 3 ∧ nz ≤ nZ nz := by unfold nZ; split <;> omega
theorem sLd_e {s D : Nat → Int32} {nz ne p e j : Nat} (hp : p < 3) (he : e < 8) (hj : j < 136) : sLd s D nz ne (eAt p e + j) = if j = 9 ∧ ne ≤ e then -1 else D (12 + 136 * e + j) := by
  rw [← dTk_e he hj, show eAt p e + j = 24 + 1100 * p + (12 + 136 * e + j) by unfold eAt; omega]
  exact sCp_at hp (by omega)
theorem sLd_z {s D : Nat → Int32} {nz ne p z j : Nat} (hp : p < 3) (hz : z < 3) (hj : j < 4) : sLd s D nz ne (zAt p z + j) = dZn D nz (4 * z + j) := by
  rw [← dTk_z (ne := ne) (by omega), show zAt p z + j = 24 + 1100 * p + (4 * z + j) by unfold zAt; omega]
  exact sCp_at hp (by omega)
theorem sLd_lo {s D : Nat → Int32} {nz ne j : Nat} (hj : j < 24) : sLd s D nz ne j = 0 := sCp_lo hj
theorem sLd_0 {s D : Nat → Int32} {nz ne p e : Nat} (h : gDr D nz ne) (hp : p < 3) (he : e < 8) : (e < ne → sLd s D nz ne (eAt p e) = 1) ∧ (ne ≤ e → sLd s D nz ne (eAt p e) = 0) := by
  have v : sLd s D nz ne (eAt p e + 0) = _ := sLd_e hp he (by omega)
  rw [if_neg (by omega)] at v
  exact ⟨fun q => v.trans (h.2.2.2.2.2 e q).2, fun q => v.trans (h.2.2.2.1 e q he 0 (by omega))⟩
theorem sLd_f {s D : Nat → Int32} {nz ne p e i : Nat} (h : gDr D nz ne) (hp : p < 3) (he : e < 8) (hi : i = 10 ∨ i = 11) : sLd s D nz ne (eAt p e + i) = 0 := by
  rw [sLd_e hp he (by omega), if_neg (by omega)]
  by_cases q : e < ne
  · rcases hi with rfl | rfl
    · exact (h.2.2.2.2.2 e q).1.2.2.1
    · exact (h.2.2.2.2.2 e q).1.2.2.2
  · exact h.2.2.2.1 e (by omega) he i (by omega)
theorem dZn_v {D : Nat → Int32} {nz ne z : Nat} (h : gDr D nz ne) (hz : z < nZ nz) : ∃ k, k ≤ 1440 ∧ dZn D nz (4 * z) = nI k - nI 720 := by
  unfold nZ at hz
  by_cases c : nz = 0
  · rw [if_pos c] at hz
    obtain rfl : z = 0 := by omega
    refine ⟨720, by omega, ?_⟩
    unfold dZn
    rw [if_neg (by omega)]
    exact h.2.2.1 c
  · rw [if_neg c] at hz
    unfold dZn
    rw [if_neg (by omega)]
    exact h.2.1 z hz
theorem ld_iv {s D : Nat → Int32} {nz ne : Nat} (h : gDr D nz ne) : sIv (sLd s D nz ne) (nZ nz) ∧ sZo (sLd s D nz ne) (nZ nz) := by
  have n3 := nZ_r h.2.2.2.2.1.1
  refine ⟨⟨⟨0, 0, sLd_lo (by omega), by omega, sLd_lo (by omega), by omega, Or.inl rfl, fun q hq => ⟨0, sLd_lo (by omega), by omega⟩⟩, fun p hp e he => ?_, fun e he h0 => ?_, fun q hq e he => ?_, fun i L h1 h2 h3 => ?_, n3.1, n3.2.1⟩, fun p hp z hz => ?_⟩
  · have v := sLd_0 (s := s) h hp he
    by_cases q : e < ne
    · refine ⟨Or.inr (v.1 q), fun _ => ?_⟩
      exact (h.2.2.2.2.2 e q).1.1.c1 n3.2.2 (fun j h1 h2 => by show sLd s D nz ne (eAt p e + j) = _; rw [sLd_e hp he h2, if_neg (by omega)]; rfl)
    · exact ⟨Or.inl (v.2 (by omega)), fun z => absurd ((v.2 (by omega)).symm.trans z) (by decide)⟩
  · have v := sLd_0 (s := s) h (p := 2) (by omega) he
    have q : ne ≤ e := by
      apply Classical.byContradiction
      intro z
      exact absurd ((v.1 (by omega)).symm.trans h0) (by decide)
    rw [sLd_e (by omega) he (by omega), if_pos ⟨rfl, q⟩]
  · exact ⟨Or.inl (sLd_f h (by omega) he (Or.inl rfl)), Or.inl (sLd_f h (by omega) he (Or.inr rfl)), fun z => absurd ((sLd_f h (by omega) he (Or.inr rfl)).symm.trans z) (by decide)⟩
  · have e := (sLd_lo (s := s) (D := D) (nz := nz) (ne := ne) (j := 23) (by omega)).symm.trans h1
    have := (nI_eq (a := 0) (b := L) (by omega) (by omega)).mp e
    omega
  · obtain ⟨k, h1, h2⟩ := dZn_v h hz
    exact ⟨k, h1, (sLd_z (j := 0) hp (by omega) (by omega)).trans h2⟩
theorem e_bits_z {f : Nat → Bool} : ∀ k, (∀ e, e < k → f e = false) → e_bits f k = 0
  | 0, _ => rfl
  | k + 1, h => by
    show (if f k then _ else e_bits f k) = 0
    rw [h k (by omega)]
    exact e_bits_z k (fun e he => h e (by omega))
theorem qE_eR {M M' : EM} {a b c : Nat} {D : Nat → Int32} (q : qE M' a M b) (h : eR M b c D) : eR M' a c D := ⟨h.1.q q, (q.1 9 (by omega)).trans h.2.1, (q.1 0 (by omega)).trans h.2.2⟩
/-- the exchange that begins with a draft -/
theorem Rx.ld {M M' : EM} {X r nz ne : Nat} {s D : Nat → Int32} (hb : xBg M' X M (r + 1)) (hd : DRf M r D nz ne) (hg : gDr D nz ne) (hv : ∀ z, z < 3 → mI M (r + 3 + z) 3 = 0) : Rx M' X (sLd s D nz ne) (nZ nz) := by
  obtain ⟨b0, b1, b2⟩ := hb
  obtain ⟨d0, d1, d2, d3, d4, _, _⟩ := hd
  have n3 := nZ_r hg.2.2.2.2.1.1
  have cp : ∀ p, p < 3 → qP M' (pAd X p) M (r + 1) := fun p hp => by
    by_cases q : p = 2
    · subst q; exact b1
    · rw [pAd_q (by omega)]; exact (b2 p (by omega)).2.1
  have es : ∀ q, sAd X q = X + 48 + 48 * q := fun _ => rfl
  refine ⟨⟨⟨0, 0, sLd_lo (by omega), by omega, sLd_lo (by omega), by omega, by omega, b0, fun i hi => absurd hi (Nat.not_lt_zero _)⟩, fun p hp => ?_, fun p hp e he => ?_, fun q hq => ?_⟩, fun q hq => ?_⟩
  · have c := cp p hp
    refine ⟨c.1.trans d0, fun z hz j hj => ?_⟩
    have hz3 : z < 3 := by omega
    rw [sLd_z hp hz3 hj, (c.2.1 z hz3) j hj, show r + 1 + 2 + z = r + 3 + z by omega]
    by_cases q : j < 3
    · exact d2 z hz j q
    · obtain rfl : j = 3 := by omega
      rw [hv z hz3]
      unfold dZn
      rw [if_neg (by omega)]
      exact (hg.1 z hz3).symm
  · have c := (cp p hp).2.2 e he
    rw [show r + 1 + 6 + 5 * e = r + 7 + 5 * e by omega] at c
    have v := sLd_0 (s := s) hg hp he
    have w := sLd_e (s := s) (D := D) (nz := nz) (ne := ne) hp he (j := 9) (by omega)
    show Re M' (pAd X p + 6 + 5 * e) (rowE (sLd s D nz ne) p e)
    by_cases q : e < ne
    · rw [if_neg (by omega)] at w
      have er := qE_eR c (d3 e q).1
      have er2 := er.row (D' := fun i => sLd s D nz ne (24 + 1100 * p + i)) (fun j h1 h2 => by
        show sLd s D nz ne (24 + 1100 * p + (12 + 136 * e + j)) = _
        rw [show 24 + 1100 * p + (12 + 136 * e + j) = eAt p e + j by unfold eAt; omega, sLd_e hp he h2, if_neg (by omega)])
      have ef : (fun j => (fun i => sLd s D nz ne (24 + 1100 * p + i)) (12 + 136 * e + j)) = rowE (sLd s D nz ne) p e := funext fun j => by
        show sLd s D nz ne (24 + 1100 * p + (12 + 136 * e + j)) = sLd s D nz ne (eAt p e + j)
        exact congrArg _ (by unfold eAt; omega)
      refine ⟨er.2.2.trans (v.1 q).symm, er.2.1.trans w.symm, fun _ => ?_⟩
      rw [← ef]; exact er2.1
    · rw [if_pos ⟨rfl, by omega⟩] at w
      obtain ⟨y0, y9⟩ := d4 e (by omega) he
      refine ⟨((c.1 0 (by omega)).trans y0).trans (v.2 (by omega)).symm, ((c.1 9 (by omega)).trans y9).trans w.symm, fun z => absurd ((v.2 (by omega)).symm.trans z) (by decide)⟩
  · obtain ⟨z1, z2, z3⟩ := b2 q hq
    rw [es]
    exact ⟨(z1 1 (by omega) (by omega)).trans (sLd_lo (by omega)).symm, fun w hw => (z3 w hw).trans (sLd_lo (by omega)).symm⟩
  · obtain ⟨z1, z2, z3⟩ := b2 q hq
    rw [es]
    refine ⟨(z1 2 (by omega) (by omega)).trans ?_, (z1 3 (by omega) (by omega)).trans ?_⟩
    · unfold bCh
      rw [e_bits_z]
      intro e he
      rw [sLd_f hg (by omega) he (Or.inl rfl), sLd_f hg (by omega) he (Or.inr rfl)]
      rfl
    · unfold bCt
      rw [e_bits_z]
      intro e he
      rw [sLd_f hg (by omega) he (Or.inl rfl)]
      rfl
end
