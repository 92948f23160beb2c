/-! THE RELATION: an act of a side on its copy. -/
section
variable {l : Launch} {g : EG}
theorem svP.fr {M M' : EM} {h x a c : Nat} (hs : svP M M' h x a c) (ha : a < 12) : e_fr M M' h (h + 1742) := by
  obtain ⟨M1, f1, f2, rfl⟩ := hs
  exact (f1.wd (by omega) (by omega)).tr ⟨rfl, fun c j hc => ⟨by rw [mI_sI2, if_neg (by omega), mI_sI2, if_neg (by omega)], rfl⟩⟩
theorem Rx.fr {M M' : EM} {x nz lo hi : Nat} {s : Nat → Int32} (h : Rx M x s nz) (hnz : nz ≤ 3) (hf : e_fr M M' lo hi) (hx : x + 145 ≤ lo ∨ hi ≤ x) : Rx M' x s nz := h.q hnz (hf.qX (by omega))
theorem nS2 {x p q e : Nat} (hp : p < 3) (hq : q < 2) (he : e < 8) : sAd x q < vAd x p e ∨ vAd x p e + 5 ≤ sAd x q := by
  show x + 48 + 48 * q < _ ∨ _ ≤ x + 48 + 48 * q
  unfold vAd pAd
  rcases (show p = 0 ∨ p = 1 ∨ p = 2 by omega) with rfl | rfl | rfl <;> rcases (show q = 0 ∨ q = 1 by omega) with rfl | rfl <;> simp <;> omega
theorem nS3 {x p q z : Nat} (hp : p < 3) (hq : q < 2) (hz : z < 5) : ¬ sAd x q = pAd x p + z ∧ ¬ sAd x q + 47 = pAd x p + z := by
  show ¬ x + 48 + 48 * q = _ ∧ ¬ x + 48 + 48 * q + 47 = _
  unfold pAd
  rcases (show p = 0 ∨ p = 1 ∨ p = 2 by omega) with rfl | rfl | rfl <;> rcases (show q = 0 ∨ q = 1 by omega) with rfl | rfl <;> simp <;> omega
/-- a side's own event changes, and one of its flags is set -/
theorem Rx.act {M M' : EM} {x nz q e : Nat} {s s' : Nat → Int32} (h : Rx M x s nz) (hnz : nz ≤ 3) (hq : q < 2) (he : e < 8)
    (hM : ∀ c j, x ≤ c → c < x + 145 → (c < vAd x q e ∨ vAd x q e + 5 ≤ c) → ¬ (c = sAd x q ∧ (j = 2 ∨ j = 3)) → mI M' c j = mI M c j)
    (hL : ∀ c j, x ≤ c → c < x + 145 → (c < vAd x q e ∨ vAd x q e + 5 ≤ c) → mL M' c j = mL M c j)
    (hs : ∀ j, j < 3324 → (j < eAt q e ∨ eAt q e + 136 ≤ j) → s' j = s j)
    (hv : Re M' (vAd x q e) (rowE s' q e))
    (h2 : mI M' (sAd x q) 2 = mI M (sAd x q) 2 ||| (1 <<< (nI e &&& 31)))
    (hf : (s' (eAt q e + 10) = 1 ∧ s' (eAt q e + 11) = s (eAt q e + 11) ∧ mI M' (sAd x q) 3 = mI M (sAd x q) 3 ||| (1 <<< (nI e &&& 31))) ∨ (s' (eAt q e + 11) = 1 ∧ s' (eAt q e + 10) = s (eAt q e + 10) ∧ mI M' (sAd x q) 3 = mI M (sAd x q) 3)) : Rx M' x s' nz := by
  obtain ⟨⟨g1, g2, g3, g4⟩, g5⟩ := h
  have rv := vAd_rng (x := x) (p := q) (e := e) (by omega) he
  have re := eAt_rng (p := q) (e := e) (by omega) he
  have n2 := nS2 (x := x) (p := q) (q := q) (e := e) (by omega) hq he
  have es : ∀ q', sAd x q' = x + 48 + 48 * q' := fun _ => rfl
  refine ⟨⟨g1.c (hM x 0 (by omega) (by omega) (by omega) (by rw [es]; omega)) (fun j => hM _ j (by omega) (by omega) (by omega) (by rw [es]; omega)) (fun j hj => hs j (by omega) (by omega)), fun p hp => ?_, fun p hp e' he' => ?_, fun q' hq' => ?_⟩, fun q' hq' => ?_⟩
  · have r := pAd_rng (x := x) hp
    have n1 := pAd_ne (x := x) (p := p) (p' := q) (e' := e) hp (by omega) he
    refine ⟨?_, fun z hz j hj => ?_⟩
    · rw [hM (pAd x p) 0 (by omega) (by omega) (by omega) (fun k => (nS3 (x := x) (p := p) (q := q) (z := 0) hp hq (by omega)).1 k.1.symm)]; exact (g2 p hp).1
    · have l1 := zAt_lt (p := p) (z := z) (j := j) (e := e) (p' := q) hp (by omega) (by omega) hj he
      rw [hM (pAd x p + 2 + z) j (by omega) (by omega) (by omega) (fun k => (nS3 (x := x) (p := p) (q := q) (z := 2 + z) hp hq (by omega)).1 (by rw [← k.1]; omega)), (g2 p hp).2 z hz j hj]
      exact (hs _ l1.2.1 l1.2.2).symm
  · by_cases c1 : p = q ∧ e' = e
    · obtain ⟨rfl, rfl⟩ := c1; exact hv
    · have r := vAd_rng (x := x) hp he'
      have r2 := eAt_rng hp he'
      have n1 := vAd_ne (x := x) (p := p) (e := e') (p' := q) (e' := e) hp he' (by omega) he c1
      have n3 := nS2 (x := x) (p := p) (q := q) (e := e') hp hq he'
      refine ((g3 p hp e' he').loc (M' := M') (fun c j h1 h2 => ⟨hM c j (by omega) (by omega) (by omega) (by omega), hL c j (by omega) (by omega) (by omega)⟩)).c (fun j hj _ _ => ?_)
      exact hs _ (by omega) (eAt_ne hp (by omega) he' he hj (by omega))
  · have a1 := nS2 (x := x) (p := q) (q := q') (e := e) (by omega) hq' he
    have a2 := nSA (x := x) (p := q) (q := q') (e := e) (by omega) hq' he
    have e1 := es q'; have e2 := es q
    refine ⟨?_, fun w hw => ?_⟩
    · rw [hM _ 1 (by omega) (by omega) a1 (by omega), hs _ (by omega) (by omega)]; exact (g4 q' hq').1
    · rw [hM _ w (by omega) (by omega) a2 (by omega), hs _ (by omega) (by omega)]; exact (g4 q' hq').2 w hw
  · have a1 := nS2 (x := x) (p := q) (q := q') (e := e) (by omega) hq' he
    have e1 := es q'; have e2 := es q
    by_cases c : q' = q
    · subst c
      have o : ∀ e' i, e' < 8 → ¬ e' = e → i < 136 → s' (eAt q' e' + i) = s (eAt q' e' + i) := fun e' i h1 h2 h3 => hs _ (by have := eAt_rng (p := q') (e := e') (by omega) h1; omega) (eAt_ne (by omega) (by omega) h1 he h3 (by omega))
      rw [h2, (g5 q' hq').1]
      refine ⟨?_, ?_⟩
      · refine e_bits_or (by omega) he ?_ (fun j hj hne => ?_)
        · rcases hf with k | k
          · exact decide_eq_true (Or.inl k.1)
          · exact decide_eq_true (Or.inr k.1)
        · show decide _ = decide _
          rw [o j 10 hj hne (by omega), o j 11 hj hne (by omega)]
      · rcases hf with ⟨k1, k2, k3⟩ | ⟨k1, k2, k3⟩
        · rw [k3, (g5 q' hq').2]
          refine e_bits_or (by omega) he (decide_eq_true k1) (fun j hj hne => ?_)
          show decide _ = decide _
          rw [o j 10 hj hne (by omega)]
        · rw [k3, (g5 q' hq').2]
          refine e_bits_c 8 (fun j hj => ?_)
          show decide _ = decide _
          by_cases q : j = e
          · subst q; rw [k2]
          · rw [o j 10 hj q (by omega)]
    · have o : ∀ e' i, e' < 8 → i < 136 → s' (eAt q' e' + i) = s (eAt q' e' + i) := fun e' i h1 h3 => hs _ (by have := eAt_rng (p := q') (e := e') (by omega) h1; omega) (eAt_ne (by omega) (by omega) h1 he h3 (by omega))
      rw [hM _ 2 (by omega) (by omega) a1 (by omega), hM _ 3 (by omega) (by omega) a1 (by omega), (g5 q' hq').1, (g5 q' hq').2]
      refine ⟨e_bits_c 8 (fun j hj => ?_), e_bits_c 8 (fun j hj => ?_)⟩
      · show decide _ = decide _
        rw [o j 10 hj (by omega), o j 11 hj (by omega)]
      · show decide _ = decide _
        rw [o j 10 hj (by omega)]
/-- an act's end: what was ahead is saved, the exchange in x holds the new row -/
def AY (M M' : EM) (x a c nz : Nat) (s' : Nat → Int32) : Prop := ∃ M1, svP M M1 (x + 195) (x + 50) a c ∧ e_fr M1 M' (x + 50) (x + 195) ∧ Rx M' (x + 50) s' nz
def AQ (M : EM) (x a c nz : Nat) (s' : Nat → Int32) (v : Int32) : EO → EM → Prop := fun o M' => BX (AY M M' x a c nz s' ∧ o = .inl (some (.inl v)))
theorem AQ.mk {M M1 M' : EM} {x a c nz : Nat} {s' : Nat → Int32} {v w : Int32} (h1 : svP M M1 (x + 195) (x + 50) a c) (h2 : e_fr M1 M' (x + 50) (x + 195)) (h3 : Rx M' (x + 50) s' nz) (hv : w = v) : AQ M x a c nz s' v (.inl (some (.inl w))) M' := BX.mk ⟨⟨M1, h1, h2, h3⟩, by rw [hv]⟩
/-- the history's number and place -/
def HH (M : EM) (x a c : Nat) : Prop := mI M (x + 195) 1 = nI a ∧ a < 12 ∧ mI M (x + 195) 0 = nI c ∧ c ≤ 12
theorem QH.bX {M : EM} {x nz : Nat} {F : FM} (h : QH M x F nz) : bX M (x + 50) := by
  refine ⟨h.bP (p := 2) (by omega), fun q hq => ?_⟩
  have := h.bP (p := q) (by omega)
  rw [pAd_q hq] at this
  rw [show x + 50 + 48 + 48 * q + 1 = x + 50 + 49 + 48 * q by omega]
  exact this
end
