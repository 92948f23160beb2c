/-! THE RELATION: what a pull does, part by part. -/
section
variable {l : Launch} {g : EG}
theorem Rx0.cell {M M' : EM} {x nz : Nat} {s s' : Nat → Int32} (h : Rx0 M x s nz) (hnz : nz ≤ 3) {q : Nat} (hq : q < 2) (hM : ∀ c j, ¬ c = sAd x q → ¬ c = sAd x q + 47 → mI M' c j = mI M c j) (hL : mL M' = mL M) (hs : ∀ j, (j = 0 ∨ 15 ≤ j) → s' j = s j) (hA : RA M' x s') : Rx0 M' x s' nz := by
  have e0 : sAd x q = x + 48 + 48 * q := rfl
  obtain ⟨hG, hZ, hV, _⟩ := h
  refine ⟨hG.c (hM _ _ (by omega) (by omega)) (fun j => hM _ _ (by omega) (by omega)) (fun j hj => hs j (by omega)), fun p hp => ?_, fun p hp e he => ?_, hA⟩
  · have n1 : (pAd x p + 6 ≤ sAd x q ∨ sAd x q < pAd x p) ∧ (pAd x p + 6 ≤ sAd x q + 47 ∨ sAd x q + 47 < pAd x p) := by
      rw [e0]
      unfold pAd
      rcases (show p = 0 ∨ p = 1 ∨ p = 2 by omega) with rfl | rfl | rfl <;> rcases (show q = 0 ∨ q = 1 by omega) with rfl | rfl <;> simp <;> omega
    refine ⟨(hM _ _ (by omega) (by omega)).trans (hZ p hp).1, fun z hz j hj => ?_⟩
    rw [hM _ _ (by omega) (by omega), (hZ p hp).2 z hz j hj, hs _ (by unfold zAt; omega)]
  · have n2 := sA_v (x := x) (p := p) hp he hq
    have n3 := nSA (x := x) (p := p) (q := q) (e := e) hp hq he
    refine ((hV p hp e he).loc (fun c j h1 h2 => ⟨hM c j (by omega) (by omega), by rw [hL]⟩)).c (fun j hj _ _ => hs _ (by unfold eAt; omega))
theorem Rx0.cnt {M : EM} {x nz w : Nat} {s : Nat → Int32} {v : Int32} (h : Rx0 M x s nz) (hnz : nz ≤ 3) {q : Nat} (hq : q < 2) (hw : w < 6) : Rx0 (sI M (sAd x q + 47) w (mI M (sAd x q + 47) w + v)) x (pCnt s q w v) nz := by
  have e0 : sAd x q = x + 48 + 48 * q := rfl
  refine h.cell hnz hq (fun c j h1 h2 => by rw [mI_sI2, if_neg (by omega)]) rfl (fun j hj => wS_o (by omega)) (fun q' hq' => ?_)
  have e1 : sAd x q' = x + 48 + 48 * q' := rfl
  have hA := h.2.2.2
  refine ⟨?_, fun w' hw' => ?_⟩
  · rw [mI_sI2, if_neg (by omega), (hA q' hq').1]
    exact (wS_o (by omega)).symm
  · rw [mI_sI2]
    by_cases c : q' = q ∧ w' = w
    · obtain ⟨rfl, rfl⟩ := c
      rw [if_pos ⟨rfl, rfl⟩, (hA q' hq').2 w' hw']
      exact wS_e.symm
    · rw [if_neg (by omega), (hA q' hq').2 w' hw']
      exact (wS_o (by omega)).symm
theorem Rx0.tok {M : EM} {x nz : Nat} {s : Nat → Int32} (h : Rx0 M x s nz) (hnz : nz ≤ 3) {q : Nat} (hq : q < 2) : Rx0 (sI M (sAd x q) 1 (mI M x 0)) x (wS s (1 + q) (s 0)) nz := by
  have e0 : sAd x q = x + 48 + 48 * q := rfl
  refine h.cell hnz hq (fun c j h1 h2 => by rw [mI_sI2, if_neg (by omega)]) rfl (fun j hj => wS_o (by omega)) (fun q' hq' => ?_)
  have e1 : sAd x q' = x + 48 + 48 * q' := rfl
  have hA := h.2.2.2
  have h0 : mI M x 0 = s 0 := by
    obtain ⟨c, L, z1, z2, z3, z4, z5, z6, z7⟩ := h.1
    rw [z6, z1]
  refine ⟨?_, fun w' hw' => ?_⟩
  · rw [mI_sI2]
    by_cases c : q' = q
    · subst c
      rw [if_pos ⟨rfl, rfl⟩, h0]
      exact wS_e.symm
    · rw [if_neg (by omega), (hA q' hq').1]
      exact (wS_o (by omega)).symm
  · rw [mI_sI2, if_neg (by omega), (hA q' hq').2 w' hw']
    exact (wS_o (by omega)).symm
theorem pPz_o {s : Nat → Int32} {q k j : Nat} (h : j < 24 + 1100 * q ∨ 24 + 1100 * q + k ≤ j) : pPz s q k j = s j := if_neg (by omega)
theorem Rx0.zon {M M' : EM} {x nz : Nat} {s : Nat → Int32} (h : Rx0 M x s nz) (hnz : nz ≤ 3) {q : Nat} (hq : q < 2) (hM : e_fr M M' (pAd x q) (pAd x q + 5)) (h0 : mI M' (pAd x q) 0 = mI M (pAd x 2) 0) (hz : ∀ z, z < 3 → qZ M' (pAd x q + 2 + z) M (pAd x 2 + 2 + z)) : Rx0 M' x (pPz s q 12) nz := by
  have e0 : ∀ q', sAd x q' = x + 48 + 48 * q' := fun q' => rfl
  have eq : pAd x q = x + 49 + 48 * q := pAd_q hq
  obtain ⟨hG, hZ, hV, hA⟩ := h
  have lo : ∀ j, j < 24 → pPz s q 12 j = s j := fun j hj => pPz_o (by omega)
  refine ⟨hG.c (hM.i (by omega) _) (fun j => hM.i (by omega) _) (fun j hj => lo j (by omega)), fun p hp => ?_, fun p hp e he => ?_, fun q' hq' => ⟨?_, fun w hw => ?_⟩⟩
  · by_cases c : p = q
    · subst c
      refine ⟨h0.trans (hZ 2 (by omega)).1, fun z hz' j hj => ?_⟩
      rw [hz z (by omega) j hj, (hZ 2 (by omega)).2 z hz' j hj]
      unfold pPz
      rw [if_pos (by unfold zAt; omega)]
      congr 1
      unfold zAt
      omega
    · have n1 : pAd x p + 6 ≤ pAd x q ∨ pAd x q + 6 ≤ pAd x p := by
        rw [eq]
        unfold pAd
        rcases (show p = 0 ∨ p = 1 ∨ p = 2 by omega) with rfl | rfl | rfl <;> rcases (show q = 0 ∨ q = 1 by omega) with rfl | rfl <;> simp <;> omega
      refine ⟨(hM.i (by omega) _).trans (hZ p hp).1, fun z hz' j hj => ?_⟩
      rw [hM.i (by omega), (hZ p hp).2 z hz' j hj, pPz_o]
      unfold zAt
      rcases (show p = 0 ∨ p = 1 ∨ p = 2 by omega) with rfl | rfl | rfl <;> rcases (show q = 0 ∨ q = 1 by omega) with rfl | rfl <;> omega
  · have n2 := pAd_ne (x := x) (p := q) (p' := p) (e' := e) (by omega) hp he
    refine ((hV p hp e he).loc (fun c j h1 h2 => ⟨hM.i (by omega) j, hM.k (by omega) j⟩)).c (fun j hj _ _ => pPz_o ?_)
    unfold eAt
    rcases (show p = 0 ∨ p = 1 ∨ p = 2 by omega) with rfl | rfl | rfl <;> rcases (show q = 0 ∨ q = 1 by omega) with rfl | rfl <;> omega
  · have := e0 q'
    rw [hM.i (by omega), (hA q' hq').1, lo _ (by omega)]
  · have := e0 q'
    rw [hM.i (by omega), (hA q' hq').2 w hw, lo _ (by omega)]
theorem Rx0.cpE {M M' : EM} {x nz q e : Nat} {s : Nat → Int32} (h : Rx0 M x s nz) (hnz : nz ≤ 3) (hq : q < 2) (he : e < 8) (hst : s (eAt 2 e) = 0 → s (eAt 2 e + 9) = -1) (f1 : e_fr M M' (vAd x q e) (vAd x q e + 5)) (f2 : qE M' (vAd x q e) M (vAd x 2 e)) : Rx0 M' x (rCpy s (eAt 2 e) (eAt q e)) nz := by
  have ra := vAd_rng (x := x) (p := q) (e := e) (by omega) he
  have rb := vAd_rng (x := x) (p := 2) (e := e) (by omega) he
  have hab := vAd_ne (x := x) (p := q) (e := e) (p' := 2) (e' := e) (by omega) he (by omega) he (by omega)
  have nSa := nSA (x := x) (p := q) (q := q) (e := e) (by omega) hq he
  have rA := eAt_rng (p := q) (e := e) (by omega) he
  have rB := eAt_rng (p := 2) (e := e) (by omega) he
  have hap : eAt q e + 136 ≤ eAt 2 e := by unfold eAt; omega
  have row : ∀ j, j < 136 → ¬ j = 10 → ¬ j = 11 → rCpy s (eAt 2 e) (eAt q e) (eAt q e + j) = s (eAt 2 e + j) := by
    intro j hj h10 h11
    by_cases h9 : j = 9 ∧ s (eAt 2 e) = 0
    · obtain ⟨rfl, h0⟩ := h9
      rw [rCpy_9 h0, hst h0]
    · exact rCpy_i hj h10 h11 h9
  have hb := h.2.2.1 2 (by omega) e he
  refine Rx0.mod h hnz hq he (h.1.c (f1.i (by omega) _) (fun j => f1.i (by omega) _) (fun j hj => rCpy_o (by omega))) (fun cc j h1 h2 h3 h4 h5 => ⟨f1.i h3 _, f1.k h3 _⟩) (fun j h1 h2 h3 h4 => rCpy_o h3) (fun t ht => rCpy_o (by omega)) (fun w hw => ?_) (fun q' w hq' _ hw => rCpy_o (by omega)) ?_ ?_
  · rw [f1.i (by omega), rCpy_o (by omega)]
    exact (h.2.2.2 q hq).2 w hw
  · exact (hb.q f2).c (fun j hj h10 h11 => row j hj h10 h11)
  · exact (hb.loc (fun cc j h1 h2 => ⟨f1.i (by omega) _, f1.k (by omega) _⟩)).c (fun j hj _ _ => rCpy_o (by omega))
theorem cTb_c {f f' : Nat → Int32} : ∀ n, (∀ k, k < n → f k = f' k) → cTb f n = cTb f' n
  | 0, _ => rfl
  | n + 1, h => by
    have ih := cTb_c n (fun k hk => h k (by omega))
    unfold cTb
    rw [h n (by omega), ih]
theorem told_v {M : EM} {x nz q c t : Nat} {s : Nat → Int32} (h : Rx0 M x s nz) (hv : sIv s nz) (hq : q < 2) (hc : s 0 = nI c) (ht : s (1 + q) = nI t) (htc : t ≤ c) (hcb : c < 2 ^ 20) : (if nI t < nI c - 8 then e_bits (e_thr M (x + 1)) 8 else cTb (fun b => mI M (x + 144) ((c - b) % 8)) (c - t)) = sTold s q := by
  show _ = (if s (1 + q) < s 0 - 8 then e_bits (fun e => s (eAt 2 e) == 1) 8 else rTb (fun k => s (15 + ((s 23).toNatClampNeg - ((s 0).toNatClampNeg - (s (1 + q)).toNatClampNeg) + k))) ((s 0).toNatClampNeg - (s (1 + q)).toNatClampNeg))
  rw [ht, hc]
  by_cases cc : nI t < nI c - 8
  · rw [if_pos cc, if_pos cc]
    refine e_bits_c 8 (fun e he => ?_)
    have v0 : mI M (vAd x 2 e) 0 = s (eAt 2 e) := (h.2.2.1 2 (by omega) e he).1
    have v1 := (hv.2.1 2 (by omega) e he).1
    show (!(mI M (vAd x 2 e) 0 == 0)) = _
    rw [v0]
    rcases v1 with w | w <;> rw [w] <;> decide
  · rw [if_neg cc, if_neg cc, nI_clamp (by omega), nI_clamp (by omega)]
    obtain ⟨c2, L2, a1, a2, a3, a4, a5, _⟩ := hv.1
    replace a1 : s 0 = nI c2 := a1
    replace a3 : s 23 = nI L2 := a3
    obtain ⟨c1, L1, z1, z2, z3, z4, z5, z6, z7⟩ := h.1
    have ec : c1 = c := (nI_eq (by omega) (by omega)).mp (z1.symm.trans hc)
    have ec2 : c2 = c := (nI_eq (by omega) (by omega)).mp (a1.symm.trans hc)
    have eL : L2 = L1 := (nI_eq (by omega) (by omega)).mp (a3.symm.trans z3)
    subst ec ec2 eL
    rw [z3, nI_clamp (by omega)]
    have hn : c2 - t ≤ 8 := by
      by_cases h8 : c2 < 8
      · omega
      · rw [show (8 : Int32) = nI 8 from rfl, Int32.lt_iff_toInt_lt, pk_sub_toInt (by omega) (by omega), nI_toInt (by omega)] at cc
        omega
    have hnL : c2 - t ≤ L2 := by omega
    rw [← cTb_r]
    refine cTb_c _ (fun j hj => ?_)
    show _ = s (15 + (L2 - (c2 - t) + (c2 - t - 1 - j)))
    rw [z7 _ (by omega)]
    congr 2
    omega
end
