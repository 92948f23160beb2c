/-! THE RELATION: what the questions ask. -/
section
variable {l : Launch} {g : EG}
/-- the zones' own ranges -/
def sZo (s : Nat → Int32) (nz : Nat) : Prop := ∀ p, p < 3 → ∀ z, z < nz → ∃ k, k ≤ 1440 ∧ s (zAt p z) = nI k - nI 720
/-- the exchange in x holds the reference's row -/
def QH (M : EM) (x : Nat) (F : FM) (nz : Nat) : Prop := Rx M (x + 50) (F 1) nz ∧ sIv (F 1) nz ∧ sZo (F 1) nz ∧ F 0 1 = nI nz
theorem QH.bP {M : EM} {x nz p : Nat} {F : FM} (h : QH M x F nz) (hp : p < 3) : bP M (pAd (x + 50) p) := fun e he => by
  have := (h.1.1.2.2.1 p hp e he).1
  rw [show mI M (pAd (x + 50) p + 6 + 5 * e) 0 = F 1 (eAt p e) from this]
  exact (h.2.1.2.1 p hp e he).1
theorem QH.ev {M : EM} {x nz p e : Nat} {F : FM} (h : QH M x F nz) (hp : p < 3) (he : e < 8) : Re M (pAd (x + 50) p + 6 + 5 * e) (rowE (F 1) p e) := h.1.1.2.2.1 p hp e he
theorem QH.zn {M : EM} {x nz p : Nat} {F : FM} (h : QH M x F nz) (hp : p < 3) : mI M (pAd (x + 50) p) 0 = F 0 1 := ((h.1.1.2.1 p hp).1).trans h.2.2.2.symm
theorem QH.th {M : EM} {x nz p : Nat} {F : FM} (h : QH M x F nz) (hp : p < 3) (v : Int32) : rTh F p v ↔ (0 ≤ v ∧ v ≤ 7 ∧ ¬ mI M (pAd (x + 50) p + 6 + 5 * v.toNatClampNeg) 0 = 0) := by
  constructor
  · intro k
    obtain ⟨e, he, rfl⟩ := i07 ⟨k.1, k.2.1⟩
    refine ⟨k.1, k.2.1, ?_⟩
    rw [nI_clamp (by omega), (h.ev hp he).1, show rowE (F 1) p e 0 = F 1 (eAt p e) from rfl, k.e he]
    decide
  · intro k
    obtain ⟨e, he, rfl⟩ := i07 ⟨k.1, k.2.1⟩
    have k2 := k.2.2
    rw [nI_clamp (by omega), (h.ev hp he).1] at k2
    exact rTh.mk he (((h.2.1.2.1 p hp e he).1).resolve_left k2)
theorem QH.zP {M : EM} {x nz p : Nat} {F : FM} (h : QH M x F nz) (hp : p < 3) : zP M (pAd (x + 50) p) := fun e he h0 => by
  have r := h.ev hp he
  rw [r.1] at h0
  have h1 : F 1 (eAt p e) = 1 := ((h.2.1.2.1 p hp e he).1).resolve_left h0
  obtain ⟨_, ⟨z, hz, ez⟩, _⟩ := (h.2.1.2.1 p hp e he).2 h1
  have := h.2.1.2.2.2.2.2.2
  exact ⟨z, by omega, ((r.2.2 h1).1 4 (by omega) (by omega)).trans ez⟩
theorem md_rel {M : EM} {x nz p e d : Nat} {F : FM} (h : Rx0 M x (F 1) nz) (hv : sIv (F 1) nz) (hp : p < 3) (he : e < 8) (hd : d < 30) (h1 : F 1 (eAt p e) = 1) (h2 : d < (rL F (eAt p e)).length) : (e_dyo M (vAd x p e) d = rDy (dF F (rL F (eAt p e))) (eAt p e) d ∧ e_mio M (vAd x p e) d = rMi F (eAt p e) d) ∧ e_pmo M (pAd x p) e d = rMo (dF F (rL F (eAt p e))) p (F 1 (eAt p e + 4)).toNatClampNeg (eAt p e) d := by
  have hr := h.2.2.1 p hp e he
  have L := hr.2.2 h1
  have R := (hv.2.1 p hp e he).2 h1
  obtain ⟨R0, ⟨z, hz, ez⟩, ⟨mm, hm, em⟩, R3, R4, R5, R6, R7⟩ := R
  replace ez : F 1 (eAt p e + 4) = nI z := ez
  have z4 : mI M (vAd x p e) 4 = nI z := (L.1 4 (by omega) (by omega)).trans ez
  have hnz := hv.2.2.2.2.2.2
  have hZ := (h.2.1 p hp).2 z hz
  have l1 : mI M (vAd x p e) 12 = F 1 (eAt p e + 13) := L.2.2.2.1
  have l2 : mI M (vAd x p e) 2 = F 1 (eAt p e + 2) := L.1 2 (by omega) (by omega)
  have hm0 : rMi (dF F (rL F (eAt p e))) (eAt p e) d = rMi F (eAt p e) d := by
    unfold rMi; rw [dF_r (by decide) (by decide)]
  have hdy : e_dyo M (vAd x p e) d = rDy (dF F (rL F (eAt p e))) (eAt p e) d ∧ e_mio M (vAd x p e) d = rMi (dF F (rL F (eAt p e))) (eAt p e) d := by
    unfold e_dyo e_mio rDy rMi
    rw [dF_r (by decide) (by decide), l1, l2]
    by_cases c : e_bit (F 1 (eAt p e + 13)) (nI d)
    · rw [if_pos c, if_pos c, if_pos c, if_pos c]
      obtain ⟨a, b, ha, hb, ea, eb⟩ := R5 d hd c
      replace ea : F 1 (eAt p e + (16 + d)) = nI a := ea
      replace eb : F 1 (eAt p e + (46 + d)) = nI b := eb
      have mv : mI M (vAd x p e + 2) d = F 1 (eAt p e + (16 + d)) * 1440 + F 1 (eAt p e + (46 + d)) := L.2.2.2.2.1 d hd c
      have e6 : mI M (vAd x p e + 2) d = nI (a * 1440 + b) := by rw [mv, ea, eb, show (1440 : Int32) = nI 1440 from rfl, pk_mul, nI_add]
      have e7 : nI (a * 1440 + b) / 1440 = nI a := by
        rw [show (1440 : Int32) = nI 1440 from rfl, pk_div (by omega) (by omega) (by omega)]
        congr 1; omega
      rw [show eAt p e + 16 + d = eAt p e + (16 + d) by omega, show eAt p e + 46 + d = eAt p e + (46 + d) by omega, ea, eb, e6, e7]
      refine ⟨rfl, ?_⟩
      rw [show (1440 : Int32) = nI 1440 from rfl, pk_mul, pk_sub (by omega)]
      congr 1; omega
    · rw [if_neg c, if_neg c, if_neg c, if_neg c, dF_5 h2]
      exact ⟨L.2.1.2.2 d h2, rfl⟩
  refine ⟨⟨hdy.1, hdy.2.trans hm0⟩, ?_⟩
  unfold e_pmo rMo
  rw [show pAd x p + 6 + 5 * e = vAd x p e from rfl, z4, ez, nI_clamp (by omega)]
  rw [hdy.1, hdy.2]
  unfold e_mom
  rw [hZ 0 (by omega), hZ 1 (by omega), hZ 2 (by omega), dF_r (by decide) (by decide)]
theorem e_fold_lt {t : Int32} {f : Nat → Int32} : ∀ k, ∀ x ∈ e_fold t f k, x < 1095
  | 0, x, h => by cases h
  | k + 1, x, h => by
    rw [e_fold_s] at h
    unfold e_addx at h
    split at h
    · rename_i c
      rcases List.mem_append.mp h with h | h
      · exact e_fold_lt k x h
      · simp only [List.mem_singleton] at h
        subst h
        have h1 := c.2.2.2
        have h0 := c.2.2.1
        obtain ⟨e, he, ex⟩ := i1094 ⟨h0, h1⟩
        rw [ex, nI_clamp (by omega)]; exact he
    · exact e_fold_lt k x h
theorem rDt_lt {r : Nat → Int32} (h : rOk r) : ∀ x ∈ rDt r, x < 1095 := by
  obtain ⟨d, kd, n, t, e1, e5, e6, e8, hd, hk, hn, hn0, ht, ht2⟩ := h
  intro x hx
  unfold rDt at hx
  rw [e1, e5, e6, e8, nI_clamp (by omega), nI_clamp (by omega), nI_clamp (by omega), nI_clamp (by omega)] at hx
  unfold e_dts at hx
  split at hx
  · simp only [List.mem_singleton] at hx; omega
  · exact e_fold_lt _ x hx
  · exact e_fold_lt _ x hx
  · exact e_fold_lt _ x hx
theorem agB_i2 {v : Int32} (h1 : -1000 ≤ v.toInt) (h2 : v.toInt < 1599000) : agB v := by
  refine ⟨(v.toInt + 1000).toNat, by omega, Int32.toInt_inj.mp ?_⟩
  rw [show (1000 : Int32) = nI 1000 from rfl, pk_sub_toInt (by omega) (by omega)]
  omega
theorem i_sks {x k c s : Int32} : x - (k - c) - s = (x + c) - (k + s) := by
  simp only [Int32.sub_eq_add_neg, Int32.neg_add, Int32.neg_neg]
  ac_rfl
theorem e_mom_B {f : Nat → Int32} {a b k : Nat} (ha : a < 1095) (hb : b < 1440) (hk : k ≤ 1440) (h0 : f 0 = nI k - nI 720) : agB (e_mom f (nI a) (nI b)) := by
  have key : ∀ s, s ≤ 60 → agB (nI a * 1440 + nI b - f 0 - nI s) := by
    intro s hs
    rw [h0, i_sks, show (1440 : Int32) = nI 1440 from rfl, pk_mul, nI_add, nI_add, nI_add]
    have := pk_sub_toInt (a := a * 1440 + b + 720) (b := k + s) (by omega) (by omega)
    exact agB_i2 (by omega) (by omega)
  unfold e_mom
  split
  · exact key 60 (by omega)
  · exact key 0 (by omega)
theorem rMm_B {nz p e d : Nat} {F : FM} (hv : sIv (F 1) nz) (hz : sZo (F 1) nz) (hp : p < 3) (he : e < 8) (hd : d < 30) (h1 : F 1 (eAt p e) = 1) (h2 : d < (rL F (eAt p e)).length) : agB (rMm F p e d) := by
  obtain ⟨R0, ⟨z, hz1, ez⟩, ⟨mm, hm, em⟩, R3, R4, R5, R6, R7⟩ := (hv.2.1 p hp e he).2 h1
  replace ez : F 1 (eAt p e + 4) = nI z := ez
  replace em : F 1 (eAt p e + 2) = nI mm := em
  obtain ⟨k, hk, ek⟩ := hz p hp z hz1
  have hnz := hv.2.2.2.2.2.2
  unfold rMm rMo
  rw [ez, nI_clamp (by omega)]
  have hb : ∃ a b, a < 1095 ∧ b < 1440 ∧ rDy (dF F (rL F (eAt p e))) (eAt p e) d = nI a ∧ rMi (dF F (rL F (eAt p e))) (eAt p e) d = nI b := by
    unfold rDy rMi
    rw [dF_r (by decide) (by decide)]
    by_cases c : e_bit (F 1 (eAt p e + 13)) (nI d)
    · rw [if_pos c, if_pos c]
      obtain ⟨a, b, ha, hb, ea, eb⟩ := R5 d hd c
      replace ea : F 1 (eAt p e + (16 + d)) = nI a := ea
      replace eb : F 1 (eAt p e + (46 + d)) = nI b := eb
      exact ⟨a, b, ha, hb, by rw [show eAt p e + 16 + d = eAt p e + (16 + d) by omega]; exact ea, by rw [show eAt p e + 46 + d = eAt p e + (46 + d) by omega]; exact eb⟩
    · rw [if_neg c, if_neg c, dF_5 h2, em]
      refine ⟨_, mm, ?_, hm, rfl, rfl⟩
      have : (rL F (eAt p e)).getD d 0 ∈ rL F (eAt p e) := by
        rw [List.getD_eq_getElem?_getD, List.getElem?_eq_getElem h2]
        exact List.getElem_mem h2
      exact rDt_lt R0 _ this
  obtain ⟨a, b, ha, hb, ea, eb⟩ := hb
  rw [ea, eb]
  refine e_mom_B ha hb hk ?_
  rw [dF_r (by decide) (by decide)]; exact ek
theorem rSh_d {p e d : Nat} {F : FM} : rSh F p e d = true ↔ F 1 (eAt p e) = 1 ∧ d < (rL F (eAt p e)).length ∧ ¬ e_bit (F 1 (eAt p e + 12)) (nI d) := by
  unfold rSh; exact decide_eq_true_iff
theorem QH.mo {M : EM} {x nz p e d : Nat} {F : FM} (h : QH M x F nz) (hp : p < 3) (he : e < 8) (hd : d < 30) (hs : agCs M (pAd (x + 50) p) e d = true) : rSh F p e d = true ∧ e_pmo M (pAd (x + 50) p) e d = rMm F p e d ∧ agB (e_pmo M (pAd (x + 50) p) e d) := by
  have h1 : rSh F p e d = true := (sh_rel h.1.1 h.2.1 hp he hd).mp (of_decide_eq_true hs)
  have h2 := rSh_d.mp h1
  have h3 := mo_rel h.1.1 h.2.1 hp he hd h1
  exact ⟨h1, h3, by rw [h3]; exact rMm_B h.2.1 h.2.2.1 hp he hd h2.1 h2.2.1⟩
theorem QH.ag {M : EM} {x nz p : Nat} {F : FM} (h : QH M x F nz) (hp : p < 3) : agLs M (pAd (x + 50) p) = agR F p := by
  have hsh : ∀ i, i < 8 → ∀ j, j < 30 → agCs M (pAd (x + 50) p) i j = rSh F p i j := fun i hi j hj => by
    have := sh_rel h.1.1 h.2.1 hp hi hj
    by_cases c : rSh F p i j = true
    · rw [c]; exact decide_eq_true (this.mpr c)
    · have c2 : rSh F p i j = false := by simpa using c
      rw [c2]; exact decide_eq_false (fun z => c (this.mp z))
  exact agAll_ext 8 hsh (fun i hi j hj hs => (h.mo hp hi hj hs).2.1)
theorem agIns_all {P : AG → Prop} {A : List AG} {x : AG} (h : ∀ j, j < A.length → P (agG A j)) (hx : P x) : ∀ j, j < (agIns A x).length → P (agG (agIns A x) j) := by
  intro j hj
  rw [agIns_len] at hj
  have hp := agPos_le (A := A) (m := x.1) A.length
  unfold agIns
  generalize agPos A x.1 A.length = p at *
  rcases Nat.lt_trichotomy j p with c | c | c
  · rw [agI_lt hp c]; exact h j (by omega)
  · subst c; rw [agI_eq hp]; exact hx
  · rw [agI_gt hp c]; exact h (j - 1) (by omega)
theorem agDs_all {P : AG → Prop} {sh : Nat → Bool} {mo : Nat → Int32} {e : Nat} {A : List AG} (hA : ∀ j, j < A.length → P (agG A j)) : ∀ d, (∀ k, k < d → sh k = true → P (mo k, e, k)) → ∀ j, j < (agDs sh mo e A d).length → P (agG (agDs sh mo e A d) j)
  | 0, _ => hA
  | d + 1, h => by
    have ih := agDs_all hA d (fun k hk => h k (by omega))
    by_cases c : sh d = true
    · rw [agDs_t c]; exact agIns_all ih (h d (by omega) c)
    · rw [agDs_f (by simpa using c)]; exact ih
theorem agAll_all {P : AG → Prop} {sh : Nat → Nat → Bool} {mo : Nat → Nat → Int32} : ∀ e, (∀ i k, i < e → k < 30 → sh i k = true → P (mo i k, i, k)) → ∀ j, j < (agAll sh mo e).length → P (agG (agAll sh mo e) j)
  | 0, _ => fun j hj => absurd hj (by simp [agAll])
  | e + 1, h => agDs_all (agAll_all e (fun i k hi => h i k (by omega))) 30 (fun k hk => h e k (by omega) hk)
/-- the entries' events are there -/
theorem agR_ev {F : FM} {p : Nat} : ∀ j, j < (agR F p).length → (agG (agR F p) j).2.1 < 8 ∧ F 1 (eAt p (agG (agR F p) j).2.1) = 1 :=
  agAll_all (P := fun x => x.2.1 < 8 ∧ F 1 (eAt p x.2.1) = 1) 8 (fun i k hi hk hs => ⟨hi, (rSh_d.mp hs).1⟩)
theorem QH.ln {M : EM} {x nz p : Nat} {F : FM} (h : QH M x F nz) (hp : p < 3) : ∀ j, j < (agR F p).length → mI M (pAd (x + 50) p + 6 + 5 * (agG (agR F p) j).2.1) 3 = rLn F p (agG (agR F p) j).2.1 := fun j hj => by
  obtain ⟨h1, h2⟩ := agR_ev j hj
  exact ((h.ev hp h1).2.2 h2).1 3 (by omega) (by omega)
theorem QH.lok {M : EM} {x nz p : Nat} {F : FM} (h : QH M x F nz) (hp : p < 3) : agLn (rLn F p) (agR F p) := fun j hj => by
  obtain ⟨h1, h2⟩ := agR_ev j hj
  obtain ⟨_, _, _, R3, _⟩ := (h.2.1.2.1 p hp _ h1).2 h2
  exact R3
theorem QH.agq {M : EM} {x nz p : Nat} {F : FM} (h : QH M x F nz) (hp : p < 3) : agQ (agR F p) := by
  have := agAll_W (sh := agCs M (pAd (x + 50) p)) (mo := e_pmo M (pAd (x + 50) p)) 8 (by omega) (fun i k hi hk hs => (h.mo hp hi hk hs).2.2)
  have e := h.ag hp
  unfold agLs at e
  rw [e] at this
  exact ⟨agR_len F p, this.1, this.2⟩
theorem agBm_x {ln ln' : Nat → Int32} {A : List AG} {f t : Int32} : ∀ k, (∀ j, j < k → ln (agG A j).2.1 = ln' (agG A j).2.1) → agBm ln A f t k = agBm ln' A f t k
  | 0, _ => rfl
  | k + 1, h => by
    show agB1 ln t (agBm ln A f t k) (agG A k) = agB1 ln' t (agBm ln' A f t k) (agG A k)
    rw [agBm_x k (fun j hj => h j (by omega))]
    unfold agB1
    rw [h k (by omega)]
theorem agCt_ff {A : List AG} {f t : Int32} (hS : agS A) : ∀ k, k ≤ A.length → agCt (fun x => decide (f ≤ x.1 ∧ x.1 < t)) A k = min k (agFf t A) - min k (agFf f A)
  | 0, _ => by simp [agCt]
  | k + 1, hk => by
    have ih := agCt_ff (f := f) (t := t) hS k (by omega)
    obtain ⟨f1, f2, f3⟩ := agFf_is f A
    obtain ⟨t1, t2, t3⟩ := agFf_is t A
    have up : ∀ (m : Int32) r, isFf A m r → ((agG A k).1 < m ↔ k < r) := by
      intro m r hr
      refine ⟨fun c => ?_, fun c => hr.2.1 k c⟩
      by_cases q : k < r
      · exact q
      · exfalso
        refine hr.2.2 (by omega) ?_
        by_cases z : r = k
        · rw [z]; exact c
        · have := hS r k (by omega) (by omega)
          rw [Int32.le_iff_toInt_le] at this
          rw [Int32.lt_iff_toInt_lt] at c ⊢
          omega
    have uf := up f _ (agFf_is f A)
    have ut := up t _ (agFf_is t A)
    show (if decide (f ≤ (agG A k).1 ∧ (agG A k).1 < t) = true then _ else _) = _
    rw [ih]
    have nf : f ≤ (agG A k).1 ↔ ¬ k < agFf f A := by rw [← uf]; exact (Int32.not_lt).symm
    simp only [decide_eq_true_eq, nf, ut]
    split <;> omega
end
