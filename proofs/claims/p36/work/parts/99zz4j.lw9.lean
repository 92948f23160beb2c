/-! THE LAW, 9 (by program, out of the class's halves of whole): helpers, the calendar is taken, the beginning. -/
section
variable {l : Launch} {g : EG}
def JD (M : EM) (x : Nat) (F : FM) (T : Nat) : Prop := ∃ nz a c nb B, JC M x F nz a c nb T B
theorem i_rng {v : Int32} {n : Nat} (hn : n < 2 ^ 31) (h : 0 ≤ v ∧ v ≤ nI n) : ∃ k, k ≤ n ∧ v = nI k := by
  have h0 : (0 : Int32).toInt = 0 := by decide
  obtain ⟨j, hj, rfl⟩ := nI_of (x := v) (by rw [Int32.lt_iff_toInt_lt, h0]; have := Int32.le_iff_toInt_le.mp h.1; rw [h0] at this; omega)
  exact ⟨j, (nI_leI hj hn).mp h.2, rfl⟩
theorem i_q2 {v : Int32} (h : 0 ≤ v ∧ v ≤ 1) : ∃ k, k < 2 ∧ v = nI k := by
  obtain ⟨k, hk, e⟩ := i_rng (n := 1) (by decide) h
  exact ⟨k, by omega, e⟩
theorem i_r1 {v : Int32} {n : Nat} (hn : n < 2 ^ 31) (h : 1 ≤ v ∧ v ≤ nI n) : ∃ k, 1 ≤ k ∧ k ≤ n ∧ v = nI k := by
  have h1 : (1 : Int32).toInt = 1 := by decide
  have h0 : (0 : Int32).toInt = 0 := by decide
  obtain ⟨k, hk, rfl⟩ := i_rng hn ⟨by rw [Int32.le_iff_toInt_le, h0]; have := Int32.le_iff_toInt_le.mp h.1; rw [h1] at this; omega, h.2⟩
  exact ⟨k, (nI_leI (a := 1) (by decide) (by omega)).mp h.1, hk, rfl⟩
theorem i_mx {v : Int32} {n : Nat} (hn : n < 2 ^ 31) (h : 0 ≤ v ∧ v ≤ nI n - 1) : ∃ k, k < n ∧ v = nI k := by
  rcases Nat.eq_zero_or_pos n with rfl | h1
  · have h0 : (0 : Int32).toInt = 0 := by decide
    have h2 : (nI 0 - 1 : Int32).toInt = -1 := by decide
    have a := Int32.le_iff_toInt_le.mp h.1
    have b := Int32.le_iff_toInt_le.mp h.2
    rw [h0] at a
    rw [h2] at b
    omega
  · have e1 : nI n - 1 = nI (n - 1) := pk_sub (b := 1) h1
    rw [e1] at h
    obtain ⟨k, hk, e⟩ := i_rng (by omega) h
    exact ⟨k, by omega, e⟩
theorem rTh.i {F : FM} {p : Nat} {v : Int32} (h : rTh F p v) : ∃ e, e < 8 ∧ v = nI e ∧ F 1 (eAt p e) = 1 := by
  obtain ⟨e, he, rfl⟩ := i_rng (n := 7) (by decide) ⟨h.1, h.2.1⟩
  refine ⟨e, by omega, rfl, h.e (by omega)⟩
theorem JC.n0 {M : EM} {x nz a c nb T : Nat} {F : FM} {B : Nat → Nat} (h : JC M x F nz a c nb T B) : ∃ k, F 1 0 = nI k ∧ k ≤ T := h.1.1.2.2.2
theorem JC.sz {M : EM} {x nz a c nb T : Nat} {F : FM} {B : Nat → Nat} (h : JC M x F nz a c nb T B) {s' : Nat → Int32} {q e : Nat} (hq : q < 2) (he : e < 8) (ho : ∀ j, (j < eAt q e ∨ eAt q e + 136 ≤ j) → s' j = F 1 j) : sZo s' nz ∧ ∃ k, s' 0 = nI k ∧ k ≤ T + 9 := by
  obtain ⟨k, k1, k2⟩ := h.n0
  exact ⟨h.1.1.2.2.1.act h.1.1.nz.2 (by omega) he (fun j _ hj => ho j hj), k, (ho 0 (Or.inl (by show 0 < 24 + 1100 * q + 12 + 136 * e; omega))).trans k1, by omega⟩
theorem sRm_oo {s : Nat → Int32} {a j : Nat} (h : j < a ∨ a + 136 ≤ j) : sRm s a j = s j := by
  unfold sRm wS; iterate 2 rw [if_neg (by omega)]
theorem sCa_oo {s : Nat → Int32} {a d j : Nat} (h : j < a ∨ a + 136 ≤ j) : sCa s a d j = s j := by
  unfold sCa wS; iterate 2 rw [if_neg (by omega)]
theorem sRe_oo {s : Nat → Int32} {a k j : Nat} {v : Int32} (hk : k < 136) (h : j < a ∨ a + 136 ≤ j) : sRe s a k v j = s j := by
  unfold sRe wS; iterate 2 rw [if_neg (by omega)]
theorem sMv_oo {s : Nat → Int32} {a d j : Nat} {dy mi : Int32} (hd : d < 30) (h : j < a ∨ a + 136 ≤ j) : sMv s a d dy mi j = s j := by
  unfold sMv wS; iterate 4 rw [if_neg (by omega)]
theorem sRp_oo {s : Nat → Int32} {a j : Nat} {kd n w u : Int32} (h : j < a ∨ a + 136 ≤ j) : sRp s a kd n w u j = s j := by
  unfold sRp rClr; rw [if_neg (by omega)]; unfold wS; iterate 5 rw [if_neg (by omega)]
theorem sCr_oo {s : Nat → Int32} {a j : Nat} {d mi ln z : Int32} (h : j < a ∨ a + 136 ≤ j) : sCr s a d mi ln z j = s j := by
  unfold sCr rClr; rw [if_neg (by omega)]; unfold wS; iterate 12 rw [if_neg (by omega)]
theorem rWN_c (F : FM) (S x d mi ln z : Int32) : (∃ k, 1 ≤ k ∧ k ≤ 3 ∧ rWN F S x d mi ln z = nI k) ∨ (rWN F S x d mi ln z = 0 ∧ ((0 ≤ S ∧ S ≤ 1) ∧ (0 ≤ x ∧ x ≤ 7) ∧ (0 ≤ d ∧ d ≤ 1094) ∧ (0 ≤ mi ∧ mi ≤ 1439) ∧ (1 ≤ ln ∧ ln ≤ 1440)) ∧ (0 ≤ z ∧ z ≤ F 0 1 - 1) ∧ ¬ rTh F S.toNatClampNeg x) := by
  unfold rWN
  split
  · split
    · split
      · exact Or.inl ⟨3, by omega, by omega, rfl⟩
      · rename_i h1 h2 h3; exact Or.inr ⟨rfl, h1, h2, h3⟩
    · exact Or.inl ⟨2, by omega, by omega, rfl⟩
  · exact Or.inl ⟨1, by omega, by omega, rfl⟩
theorem nI_p {k : Nat} (h : 1 ≤ k) (h2 : k ≤ 3) : ¬ nI k = 0 ∧ 0 < nI k := by
  obtain rfl | rfl | rfl : k = 1 ∨ k = 2 ∨ k = 3 := by omega
  all_goals exact ⟨by decide, by decide⟩
theorem JC.hi {M : EM} {x nz a c nb T : Nat} {F : FM} {B : Nat → Nat} (h : JC M x F nz a c nb T B) : mI M (x + 50) 0 = F 1 0 := by
  obtain ⟨c1, L, h1, -, -, -, -, h6, -⟩ := h.1.1.1.1.1
  exact h6.trans h1.symm
theorem Rw.hi {M : EM} {x nz T : Nat} {s : Nat → Int32} (h : Rw M x s nz T) : mI M x 0 = s 0 := by
  obtain ⟨c1, L, h1, -, -, -, -, h6, -⟩ := h.1.1.1
  exact h6.trans h1.symm
theorem Rw.bX {M : EM} {x nz T : Nat} {s : Nat → Int32} (h : Rw M x s nz T) : bX M x := by
  have key : ∀ p, p < 3 → bP M (pAd x p) := fun p hp e he => by
    have h1 := (h.1.1.2.2.1 p hp e he).1
    rcases ((h.2.1).2.1 p hp e he).1 with h2 | h2
    · exact Or.inl (h1.trans h2)
    · exact Or.inr (h1.trans h2)
  refine ⟨key 2 (by omega), fun s hs => ?_⟩
  have := key s (by omega)
  rw [pAd_q hs] at this
  rw [show x + 48 + 48 * s + 1 = x + 49 + 48 * s by omega]
  exact this
theorem i_720 {v : Int32} (h : -720 ≤ v ∧ v ≤ 720) : ∃ k, k ≤ 1440 ∧ v = nI k - nI 720 := by
  have a := Int32.le_iff_toInt_le.mp h.1
  have b := Int32.le_iff_toInt_le.mp h.2
  have e1 : (-720 : Int32).toInt = -720 := by decide
  have e2 : (720 : Int32).toInt = 720 := by decide
  rw [e1] at a
  rw [e2] at b
  refine ⟨(v.toInt + 720).toNat, by omega, ?_⟩
  apply Int32.toInt_inj.mp
  rw [pk_sub_toInt (by omega) (by omega)]
  omega
theorem pPl_0 (s : Nat → Int32) {q : Nat} (hq : q < 2) : pPl s q 0 = s 0 := by
  unfold pPl
  rw [wS_o (by omega), pPe_o hq 8 (Nat.le_refl _) (fun e he => Or.inl (by show 0 < 24 + 1100 * q + 12 + 136 * e; omega)), pPz_o (Or.inl (by omega))]
  unfold pPc
  rw [pCnt_lo (by omega) hq (by omega), pCnt_lo (by omega) hq (by omega), pCnt_lo (by omega) hq (by omega)]
theorem JC.ly {M M' : EM} {x nz a c nb T z e : Nat} {F F' : FM} {B : Nat → Nat} {D : Nat → Int32} (h : JC M x F nz a c nb T B) (hg : gDr D z e) (hc : CLy M M' x D z e) (hr : LYes F F' D z e) : JC M' x F' (nZ z) a 0 0 T B := by
  obtain ⟨M1, M2, ⟨⟨-, d2, d3, -, d5⟩, ⟨c1, c2⟩, hD⟩, ⟨f, hb⟩, rfl⟩ := hc
  obtain ⟨r0, r10, r16, r17, rs, r40, r41, r1, r6, -, -⟩ := hr
  obtain ⟨-, ⟨h2, -⟩, -, -, -, -, h7⟩ := h
  have hv : ∀ y, y < 3 → mI M1 (x + 1 + 3 + y) 3 = 0 := fun y hy => (d5 y hy).trans (by rw [show x + 1 + 3 + y = x + 4 + y by omega]; exact h7 y hy)
  have q9 : qP (sI M1 (x + 48) 0 0) (x + 2) M1 (x + 2) := qP.loc (fun c j k1 k2 => ⟨by rw [mI_sI, if_neg (by omega)], rfl⟩)
  have hb1 : xBg M2 (x + 50) M1 (x + 1 + 1) := ⟨hb.1, hb.2.1.tr q9, fun s hs => ⟨(hb.2.2 s hs).1, (hb.2.2 s hs).2.1.tr q9, (hb.2.2 s hs).2.2⟩⟩
  have hx : Rx M2 (x + 50) (F' 1) (nZ z) := by rw [rs]; exact Rx.ld hb1 hD hg hv
  obtain ⟨i1, i2⟩ := ld_iv (s := F 1) hg
  have hw : Rw M2 (x + 50) (F' 1) (nZ z) T := ⟨hx, by rw [rs]; exact i1, by rw [rs]; exact i2, 0, by rw [rs]; unfold sCp; rw [if_pos (by omega)]; rfl, by omega⟩
  have mv : ∀ c j, c < x + 50 → ¬ c = x + 48 → mI (sI (sI (sI M2 (x + 195) 0 (nI 0)) (x + 2228) 0 0) (x + 2228) 1 0) c j = mI M1 c j := fun c j k1 k2 => by
    rw [mI_sI, if_neg (by omega), mI_sI, if_neg (by omega), mI_sI, if_neg (by omega), f.i (by omega), mI_sI, if_neg (by omega)]
  refine ⟨⟨((hw.eq (lo := x + 50) (hi := x + 195) (eqR.sI (by omega)) (by omega) (by omega)).eq (lo := x + 50) (hi := x + 195) (eqR.sI (by omega)) (by omega) (by omega)).eq (lo := x + 50) (hi := x + 195) (eqR.sI (by omega)) (by omega) (by omega), r1⟩, ⟨⟨?_, h2.2.1, ?_, by omega⟩, r6.trans rfl⟩, fun i hi => absurd hi (by omega), fun t' ht => ?_, ⟨⟨⟨by omega, fun j hj => absurd hj (by omega)⟩, ?_⟩, r10, by omega, fun j hj => absurd hj (by omega)⟩, ⟨?_, ?_⟩, fun y hy => ?_⟩
  · rw [mI_sI, if_neg (by omega), mI_sI, if_neg (by omega), mI_sI, if_pos rfl, if_neg (by omega), f.i (by omega), mI_sI, if_neg (by omega), d2 _ _ (by omega)]
    exact h2.1
  · rw [mI_sI, if_neg (by omega), mI_sI, if_neg (by omega), mI_sI, if_pos rfl, if_pos rfl]
  · obtain rfl | rfl : t' = 0 ∨ t' = 1 := by omega
    · exact ⟨by rw [r40, mI_sI, if_pos rfl, if_neg (by omega), mI_sI, if_pos rfl, if_pos rfl], Or.inl r40⟩
    · exact ⟨by rw [r41, mI_sI, if_pos rfl, if_pos rfl], Or.inl r41⟩
  · rw [mI_sI, if_neg (by omega), mI_sI, if_neg (by omega), mI_sI, if_neg (by omega), f.i (by omega), mI_sI, if_pos rfl, if_pos rfl]; rfl
  · rw [r16, mv _ _ (by omega) (by omega)]; exact c1
  · rw [r17, mv _ _ (by omega) (by omega)]; exact c2
  · rw [mv _ _ (by omega) (by omega)]
    have := hv y hy
    rw [show x + 1 + 3 + y = x + 4 + y by omega] at this
    exact this
theorem ZPl.qP {M : EM} {a b : Nat} (h : ZPl M a) (h' : ZPl M b) : qP M a M b :=
  ⟨(h.1 0).trans (h'.1 0).symm, fun z hz j _ => (h.2.1 z hz j).trans (h'.2.1 z hz j).symm, fun e he => ⟨fun j _ => ((h.2.2 e he).1 j).trans ((h'.2.2 e he).1 j).symm, fun j _ => ((h.2.2 e he).2 1 (by omega) (by omega) j).1.trans ((h'.2.2 e he).2 1 (by omega) (by omega) j).1.symm, fun j _ => ((h.2.2 e he).2 2 (by omega) (by omega) j).1.trans ((h'.2.2 e he).2 2 (by omega) (by omega) j).1.symm, fun j _ => ((h.2.2 e he).2 3 (by omega) (by omega) j).1.trans ((h'.2.2 e he).2 3 (by omega) (by omega) j).1.symm, fun j _ => ((h.2.2 e he).2 4 (by omega) (by omega) j).2.trans ((h'.2.2 e he).2 4 (by omega) (by omega) j).2.symm⟩⟩
theorem mdF_1 : mdF 1 = sLd (F01 1) (zD 1100 (F00 7)) 0 0 := rfl
theorem JC.ini {M : EM} {x : Nat} (h : ZCs M x) (T : Nat) : JD M x mdF T := by
  obtain ⟨⟨hr, hp, ht, hb⟩, ⟨e0, eP, eS, eN⟩, ⟨hh, -⟩, -, hk⟩ := h
  have hp' : ZPl M (x + 2) := hp
  have hg : gDr (zD 1100 (F00 7)) 0 0 := gDr_0
  have hX : xBg M (x + 50) M (x + 1 + 1) := ⟨(e0 0).1, eP.qP hp', fun s hs => ⟨fun j _ _ => ((eS s hs).1 j).1, by have := (eS s hs).2.1; rw [show x + 50 + 48 + 48 * s + 1 = x + 50 + 49 + 48 * s by omega] at this; exact this.qP hp', fun j _ => ((eS s hs).2.2 j).1⟩⟩
  have hD : DRf M (x + 1) (zD 1100 (F00 7)) 0 0 := by
    refine ⟨(hp'.1 0).trans rfl, (hr 1).trans rfl, fun z hz j hj => ?_, fun e he => absurd he (by omega), fun e _ he => ⟨?_, ?_⟩, ?_, dZr_0⟩
    · rw [if_pos rfl] at hz
      obtain rfl : z = 0 := by omega
      have h9 := hp'.2.1 0 (by omega) j
      refine h9.trans ?_
      unfold dZn
      by_cases hj0 : j = 0
      · subst hj0; rfl
      · rw [if_pos (by omega), if_pos ⟨rfl, by omega⟩]
    · have := (hp'.2.2 e he).1 0
      rw [show x + 2 + 6 + 5 * e = x + 1 + 7 + 5 * e by omega] at this
      exact this.trans rfl
    · have := (hp'.2.2 e he).1 9
      rw [show x + 2 + 6 + 5 * e = x + 1 + 7 + 5 * e by omega] at this
      exact this.trans rfl
    · exact ⟨Nat.zero_le _, Nat.zero_le _, fun e _ he => if_pos (by omega)⟩
  have hv : ∀ z, z < 3 → mI M (x + 1 + 3 + z) 3 = 0 := fun z hz => by
    have := hp'.2.1 z hz 3
    rw [show x + 2 + 2 + z = x + 1 + 3 + z by omega] at this
    exact this.trans rfl
  obtain ⟨i1, i2⟩ := ld_iv (s := F01 1) hg
  refine ⟨1, 0, 0, 0, fun _ => 0, ⟨⟨?_, ?_, ?_, 0, rfl, by omega⟩, rfl⟩, ⟨⟨(hh 1).1.trans rfl, by omega, (hh 0).1.trans rfl, by omega⟩, rfl⟩, fun i hi => absurd hi (by omega), fun t ht => ?_, ⟨⟨⟨by omega, fun j hj => absurd hj (by omega)⟩, ?_⟩, rfl, by omega, fun j hj => absurd hj (by omega)⟩, ⟨(hr 2).trans rfl, (hr 3).trans rfl⟩, fun z hz => ?_⟩
  · rw [mdF_1]; exact Rx.ld hX hD hg hv
  · rw [mdF_1]; exact i1
  · rw [mdF_1]; exact i2
  · obtain rfl | rfl : t = 0 ∨ t = 1 := by omega
    · exact ⟨(hk 0).1.trans rfl, Or.inl rfl⟩
    · exact ⟨(hk 1).1.trans rfl, Or.inl rfl⟩
  · exact (ht 0).1.trans rfl
  · have := hv z hz
    rw [show x + 1 + 3 + z = x + 4 + z by omega] at this
    exact this
end
