/-! THE RELATION: what an event shows. -/
section
variable {l : Launch} {g : EG}
theorem msk32 : ∀ n, n < 31 → ∀ j, j < 32 → (((1 : Int32) <<< (nI n &&& 31)) - 1).toBitVec.getLsbD j = decide (j < n) := by decide +kernel
theorem not_lsb (b : Int32) {j : Nat} (hj : j < 32) : (b ^^^ (-1)).toBitVec.getLsbD j = !b.toBitVec.getLsbD j := by
  have e : ∀ j, j < 32 → (-1 : Int32).toBitVec.getLsbD j = true := by decide +kernel
  rw [Int32.toBitVec_xor, BitVec.getLsbD_xor, e j hj]
  simp
theorem sh_rel {M : EM} {x nz p e d : Nat} {F : FM} (h : Rx0 M x (F 1) nz) (hv : sIv (F 1) nz) (hp : p < 3) (he : e < 8) (hd : d < 30) : e_bit (e_shb (mI M (vAd x p e))) (nI d) ↔ rSh F p e d = true := by
  have hr := h.2.2.1 p hp e he
  have h01 := (hv.2.1 p hp e he).1
  have r0 : mI M (vAd x p e) 0 = F 1 (eAt p e) := hr.1
  have e2 : rSh F p e d = true ↔ F 1 (eAt p e) = 1 ∧ d < (rL F (eAt p e)).length ∧ ¬ e_bit (F 1 (eAt p e + 12)) (nI d) := by
    unfold rSh; exact decide_eq_true_iff
  rw [e2]
  unfold e_shb
  rw [r0]
  rcases h01 with c | c
  · rw [if_pos c, c]
    refine ⟨fun k => ?_, fun k => absurd k.1 (by decide)⟩
    rw [e_bit_lsb _ (by omega)] at k
    simp at k
  · rw [if_neg (by rw [c]; decide)]
    have L := hr.2.2 c
    have l1 : mI M (vAd x p e) 10 = nI (rL F (eAt p e)).length := L.2.1.2.1
    have l2 : mI M (vAd x p e) 11 = F 1 (eAt p e + 12) := L.2.2.1
    have l3 : (rL F (eAt p e)).length ≤ 30 := L.2.1.1
    rw [l1, l2, e_bit_lsb _ (by omega), e_bit_lsb _ (by omega), Int32.toBitVec_and, BitVec.getLsbD_and, msk32 _ (by omega) d (by omega), not_lsb _ (by omega)]
    simp [c]
theorem mo_rel {M : EM} {x nz p e d : Nat} {F : FM} (h : Rx0 M x (F 1) nz) (hv : sIv (F 1) nz) (hp : p < 3) (he : e < 8) (hd : d < 30) (hs : rSh F p e d = true) : e_pmo M (pAd x p) e d = rMm F p e d := by
  have hr := h.2.2.1 p hp e he
  have e2 : F 1 (eAt p e) = 1 ∧ d < (rL F (eAt p e)).length ∧ ¬ e_bit (F 1 (eAt p e + 12)) (nI d) := by
    have := hs; unfold rSh at this; exact decide_eq_true_iff.mp this
  have L := hr.2.2 e2.1
  have R := (hv.2.1 p hp e he).2 e2.1
  obtain ⟨R0, ⟨z, hz, ez⟩, ⟨mm, hm, em⟩, R3, R4, R5, R6, R7⟩ := R
  replace ez : F 1 (eAt p e + 4) = nI z := ez
  have z4 : mI M (vAd x p e) 4 = nI z := (L.1 4 (by omega) (by omega)).trans ez
  have hnz := hv.2.2.2.2.2.2
  unfold e_pmo rMm rMo
  rw [show pAd x p + 6 + 5 * e = vAd x p e from rfl, z4, ez, nI_clamp (by omega)]
  have hZ := (h.2.1 p hp).2 z hz
  have l1 : mI M (vAd x p e) 12 = F 1 (eAt p e + 13) := L.2.2.2.1
  have l2 : mI M (vAd x p e) 2 = F 1 (eAt p e + 2) := L.1 2 (by omega) (by omega)
  have hdy : e_dyo M (vAd x p e) d = rDy (dF F (rL F (eAt p e))) (eAt p e) d ∧ e_mio M (vAd x p e) d = rMi (dF F (rL F (eAt p e))) (eAt p e) d := by
    unfold e_dyo e_mio rDy rMi
    rw [dF_r (by decide) (by decide), l1, l2]
    by_cases c : e_bit (F 1 (eAt p e + 13)) (nI d)
    · rw [if_pos c, if_pos c, if_pos c, if_pos c]
      obtain ⟨a, b, ha, hb, ea, eb⟩ := R5 d hd c
      replace ea : F 1 (eAt p e + (16 + d)) = nI a := ea
      replace eb : F 1 (eAt p e + (46 + d)) = nI b := eb
      have mv : mI M (vAd x p e + 2) d = F 1 (eAt p e + (16 + d)) * 1440 + F 1 (eAt p e + (46 + d)) := L.2.2.2.2.1 d hd c
      have e6 : mI M (vAd x p e + 2) d = nI (a * 1440 + b) := by rw [mv, ea, eb, show (1440 : Int32) = nI 1440 from rfl, pk_mul, nI_add]
      have e7 : nI (a * 1440 + b) / 1440 = nI a := by
        rw [show (1440 : Int32) = nI 1440 from rfl, pk_div (by omega) (by omega) (by omega)]
        congr 1; omega
      rw [show eAt p e + 16 + d = eAt p e + (16 + d) by omega, show eAt p e + 46 + d = eAt p e + (46 + d) by omega, ea, eb, e6, e7]
      refine ⟨rfl, ?_⟩
      rw [show (1440 : Int32) = nI 1440 from rfl, pk_mul, pk_sub (by omega)]
      congr 1; omega
    · rw [if_neg c, if_neg c, if_neg c, if_neg c, dF_5 e2.2.1]
      exact ⟨L.2.1.2.2 d e2.2.1, rfl⟩
  rw [hdy.1, hdy.2]
  unfold e_mom
  rw [hZ 0 (by omega), hZ 1 (by omega), hZ 2 (by omega), dF_r (by decide) (by decide)]
theorem an_rel {M : EM} {x nz p e d w : Nat} {F : FM} (h : Rx0 M x (F 1) nz) (hp : p < 3) (he : e < 8) (hd : d < 30) (hw : w < 2) (h1 : F 1 (eAt p e) = 1) : e_ans (e_giv (mL M (vAd x p e + 4) w) (nI d)) (mI M (vAd x p e + 3) w) = rAn F (eAt p e) w d := by
  have L := (h.2.2.1 p hp e he).2.2 h1
  have a1 : mI M (vAd x p e + 3) w = F 1 (eAt p e + (14 + w)) := L.2.2.2.2.2.1 w hw
  have a2 : e_giv (mL M (vAd x p e + 4) w) (nI d) = F 1 (eAt p e + (76 + 30 * w + d)) := L.2.2.2.2.2.2 w d hw hd
  unfold rAn
  rw [a1, a2, show eAt p e + 76 + 30 * w + d = eAt p e + (76 + 30 * w + d) by omega, show eAt p e + 14 + w = eAt p e + (14 + w) by omega]
end
