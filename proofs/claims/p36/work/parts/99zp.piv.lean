/-! THE TEXT: what was read is in its ranges (pure). -/
section
variable {l : Launch} {g : EG}
theorem pN_d {B : Nat → Nat} {n t v t' nd : Nat} (hn : nd ≤ 1000) (h : pN B n 0 (nI nd - 1) t = .inr (v, t')) : v < nd := by
  obtain ⟨_, b, _, _, _, v2⟩ := pN_r h
  obtain ⟨e, he, ee⟩ := idt hn b
  have := (nI_eq (a := v) (b := e) (by omega) (by omega)).mp ee
  omega
theorem pN_b {B : Nat → Nat} {n t v t' N : Nat} {lo : Int32} (hN : N < 2 ^ 30) (h : pN B n lo (nI N) t = .inr (v, t')) : v ≤ N := by
  obtain ⟨_, ⟨_, b⟩, _, _, _, v2⟩ := pN_r h
  exact (nI_leI (by omega) (by omega)).mp b
theorem pN_a {B : Nat → Nat} {n t v t' N : Nat} {hi : Int32} (hN : N < 2 ^ 30) (h : pN B n (nI N) hi t = .inr (v, t')) : N ≤ v := by
  obtain ⟨_, ⟨b, _⟩, _, _, _, v2⟩ := pN_r h
  exact (nI_leI (by omega) (by omega)).mp b
theorem tn_or (x y : Int32) : tn (x ||| y) = tn x ||| tn y := rfl
theorem or_n {a b n : Nat} (hn : n ≤ 30) (ha : a < 2 ^ n) (hb : b < 2 ^ n) : nI a ||| nI b = nI (a ||| b) ∧ (a ||| b) < 2 ^ n := by
  have h1 : a ||| b < 2 ^ n := Nat.or_lt_two_pow ha hb
  have h2 : 2 ^ n ≤ 2 ^ 30 := Nat.pow_le_pow_right (by omega) hn
  refine ⟨tn_inj ?_, h1⟩
  rw [tn_or, tn_nI (by omega), tn_nI (by omega), tn_nI (by omega)]
theorem rDt_c1 {r r' : Nat → Int32} (h : ∀ j, 1 ≤ j → j ≤ 8 → r' j = r j) : rDt r' = rDt r := by
  unfold rDt
  rw [h 5 (by omega) (by omega), h 1 (by omega) (by omega), h 6 (by omega) (by omega), h 8 (by omega) (by omega), h 7 (by omega) (by omega)]
theorem rEv.c1 {r r' : Nat → Int32} {nz nz' : Nat} (h : rEv r nz) (hz : nz ≤ nz') (hr : ∀ j, 1 ≤ j → j < 136 → r' j = r j) : rEv r' nz' := by
  obtain ⟨k1, ⟨z, k2, k2'⟩, k3, k4, k5, k6, k7, k8⟩ := h
  refine ⟨?_, ⟨z, by omega, (hr 4 (by omega) (by omega)).trans k2'⟩, ?_, ?_, ?_, fun k hk hb => ?_, fun s hs => ?_, fun s k hs hk => ?_⟩
  · unfold rOk at *; rw [hr 1 (by omega) (by omega), hr 5 (by omega) (by omega), hr 6 (by omega) (by omega), hr 8 (by omega) (by omega)]; exact k1
  · rw [hr 2 (by omega) (by omega)]; exact k3
  · rw [hr 3 (by omega) (by omega)]; exact k4
  · rw [rDt_c1 (fun j h1 h2 => hr j h1 (by omega)), hr 12 (by omega) (by omega)]; exact k5
  · rw [hr 13 (by omega) (by omega)] at hb
    rw [hr (16 + k) (by omega) (by omega), hr (46 + k) (by omega) (by omega)]; exact k6 k hk hb
  · rw [hr (14 + s) (by omega) (by omega)]; exact k7 s hs
  · rw [hr (76 + 30 * s + k) (by omega) (by omega)]; exact k8 s k hs hk
def rowA (D : Nat → Int32) (a : Nat) : Nat → Int32 := fun j => D (a + j)
/-- a row that was read -/
def rE0 (D : Nat → Int32) (a nz : Nat) : Prop := rEv (rowA D a) nz ∧ D (a + 9) = 0 ∧ D (a + 10) = 0 ∧ D (a + 11) = 0
theorem pNo_iv {B : Nat → Nat} {n a nz nd t t' : Nat} {D D' : Nat → Int32} (h : pNo B n a nd D t = .inr (D', t')) (hd : nd = (rDt (rowA D a)).length) (he : rE0 D a nz) : rE0 D' a nz ∧ nd = (rDt (rowA D' a)).length := by
  have l30 := rDt_le (rowA D a)
  unfold pNo at h
  rcases hp : pN B n 0 (nI nd - 1) t with e | ⟨v, t1⟩
  · rw [hp] at h; cases h
  rw [hp] at h; dsimp only at h
  have hv := pN_d (by omega) hp
  split at h
  · cases h
  simp only [Sum.inr.injEq, Prod.mk.injEq] at h
  obtain ⟨rfl, rfl⟩ := h
  obtain ⟨ev, f9, f10, f11⟩ := he
  have oo : ∀ i, ¬ i = 12 → rowA (wS D (a + 12) (D (a + 12) ||| (1 <<< (nI v &&& 31)))) a i = rowA D a i := fun i h1 => wS_o (by omega)
  have ed := rDt_c1 (fun j h1 h2 => oo j (by omega))
  refine ⟨⟨ev.c (fun j hj => oo j (by omega)) ?_ (fun k hk hb => ?_) (fun w hw => ?_) (fun w k hw hk => ?_), (oo 9 (by omega)).trans f9, (oo 10 (by omega)).trans f10, (oo 11 (by omega)).trans f11⟩, by rw [ed]; exact hd⟩
  · obtain ⟨k, hk, ek⟩ := ev.2.2.2.2.1
    replace ek : D (a + 12) = nI k := ek
    have := or_n (a := k) (b := 2 ^ v) l30 hk (Nat.pow_lt_pow_right (by omega) (by omega))
    refine ⟨k ||| 2 ^ v, this.2, ?_⟩
    show wS D (a + 12) _ (a + 12) = _
    rw [wS_e, ek, one_n v (by omega), this.1]
  · rw [oo 13 (by omega)] at hb
    rw [oo (16 + k) (by omega), oo (46 + k) (by omega)]; exact ev.2.2.2.2.2.1 k hk hb
  · rw [oo (14 + w) (by omega)]; exact ev.2.2.2.2.2.2.1 w hw
  · rw [oo (76 + 30 * w + k) (by omega)]; exact ev.2.2.2.2.2.2.2 w k hw hk
theorem pMo_iv {B : Nat → Nat} {n a nz nd t t' : Nat} {D D' : Nat → Int32} (h : pMo B n a nd D t = .inr (D', t')) (hd : nd = (rDt (rowA D a)).length) (he : rE0 D a nz) : rE0 D' a nz ∧ nd = (rDt (rowA D' a)).length := by
  have l30 := rDt_le (rowA D a)
  unfold pMo at h
  rcases hp : pN B n 0 (nI nd - 1) t with e | ⟨d, t1⟩
  · rw [hp] at h; cases h
  rw [hp] at h; dsimp only at h
  rcases hp2 : pN B n 0 1094 t1 with e | ⟨y, t2⟩
  · rw [hp2] at h; cases h
  rw [hp2] at h; dsimp only at h
  rcases hp3 : pN B n 0 1439 t2 with e | ⟨m, t3⟩
  · rw [hp3] at h; cases h
  rw [hp3] at h; dsimp only at h
  have hv := pN_d (by omega) hp
  have hy := pN_b (N := 1094) (by omega) hp2
  have hm := pN_b (N := 1439) (by omega) hp3
  simp only [Sum.inr.injEq, Prod.mk.injEq] at h
  obtain ⟨rfl, rfl⟩ := h
  obtain ⟨ev, f9, f10, f11⟩ := he
  have oo : ∀ i, i < 136 → ¬ i = 13 → ¬ i = 16 + d → ¬ i = 46 + d → rowA (wS (wS (wS D (a + 16 + d) (nI y)) (a + 46 + d) (nI m)) (a + 13) (D (a + 13) ||| (1 <<< (nI d &&& 31)))) a i = rowA D a i := fun i h0 h1 h2 h3 => by
    show wS _ _ _ (a + i) = _
    rw [wS_o (by omega), wS_o (by omega), wS_o (by omega)]; rfl
  have ed := rDt_c1 (fun j h1 h2 => oo j (by omega) (by omega) (by omega) (by omega))
  refine ⟨⟨ev.c (fun j hj => oo j (by omega) (by omega) (by omega) (by omega)) ?_ (fun k hk hb => ?_) (fun w hw => ?_) (fun w k hw hk => ?_), (oo 9 (by omega) (by omega) (by omega) (by omega)).trans f9, (oo 10 (by omega) (by omega) (by omega) (by omega)).trans f10, (oo 11 (by omega) (by omega) (by omega) (by omega)).trans f11⟩, by rw [ed]; exact hd⟩
  · rw [oo 12 (by omega) (by omega) (by omega) (by omega)]; exact ev.2.2.2.2.1
  · replace hb : e_bit (wS (wS (wS D (a + 16 + d) (nI y)) (a + 46 + d) (nI m)) (a + 13) (D (a + 13) ||| (1 <<< (nI d &&& 31))) (a + 13)) (nI k) := hb
    rw [wS_e, bit_or (by omega) hk] at hb
    by_cases z : k = d
    · subst z
      refine ⟨y, m, by omega, by omega, ?_, ?_⟩
      · show wS _ _ _ (a + (16 + k)) = _
        rw [show a + (16 + k) = a + 16 + k by omega, wS_o (by omega), wS_o (by omega), wS_e]
      · show wS _ _ _ (a + (46 + k)) = _
        rw [show a + (46 + k) = a + 46 + k by omega, wS_o (by omega), wS_e]
    · rw [oo (16 + k) (by omega) (by omega) (by omega) (by omega), oo (46 + k) (by omega) (by omega) (by omega) (by omega)]; exact ev.2.2.2.2.2.1 k hk (hb.resolve_right z)
  · rw [oo (14 + w) (by omega) (by omega) (by omega) (by omega)]; exact ev.2.2.2.2.2.2.1 w hw
  · rw [oo (76 + 30 * w + k) (by omega) (by omega) (by omega) (by omega)]; exact ev.2.2.2.2.2.2.2 w k hw hk
theorem pEx_iv {B : Nat → Nat} {n a nz nd : Nat} : ∀ f {D D' : Nat → Int32} {t t' : Nat}, pEx B n a nd f D t = .inr (D', t') → nd = (rDt (rowA D a)).length → rE0 D a nz → rE0 D' a nz := by
  intro f
  induction f with
  | zero =>
    intro D D' t t' h hd he
    simp only [pEx, Sum.inr.injEq, Prod.mk.injEq] at h
    rw [← h.1]; exact he
  | succ f ih =>
    intro D D' t t' h hd he
    rw [pEx_s] at h
    split at h
    · rcases hp : pNo B n a nd D (nx B n t) with e | ⟨D2, t2⟩
      · rw [hp] at h; cases h
      · rw [hp] at h; dsimp only at h
        have q := pNo_iv hp hd he
        exact ih h q.2 q.1
    · split at h
      · rcases hp : pMo B n a nd D (nx B n t) with e | ⟨D2, t2⟩
        · rw [hp] at h; cases h
        · rw [hp] at h; dsimp only at h
          have q := pMo_iv hp hd he
          exact ih h q.2 q.1
      · simp only [Sum.inr.injEq, Prod.mk.injEq] at h
        rw [← h.1]; exact he
theorem dE1_a {D : Nat → Int32} {a x y z w j : Nat} : dE1 D a x y z w (a + j) = if j = 8 then 1 else if j = 6 then 0 else if j = 5 then 0 else if j = 4 then nI w else if j = 3 then nI z else if j = 2 then nI y else if j = 1 then nI x else D (a + j) := by
  unfold dE1 wS
  simp only [Nat.add_left_cancel_iff]
theorem dRu_a {D : Nat → Int32} {a j : Nat} {r : Int32 × Int32 × Int32 × Int32} : dRu D a r (a + j) = if j = 8 then r.2.2.2 else if j = 7 then r.2.2.1 else if j = 5 then r.2.1 else if j = 6 then r.1 else D (a + j) := by
  unfold dRu wS
  simp only [Nat.add_left_cancel_iff]
theorem pE1_iv {D : Nat → Int32} {a nz x y z w : Nat} (hD : ∀ j, j < 136 → D (a + j) = 0) (hx : x < 1095) (hy : y < 1440) (hz : 1 ≤ z) (hz2 : z ≤ 1440) (hw : w < nz) : rE0 (dE1 D a x y z w) a nz := by
  have v : ∀ j, j < 136 → rowA (dE1 D a x y z w) a j = if j = 8 then 1 else if j = 6 then 0 else if j = 5 then 0 else if j = 4 then nI w else if j = 3 then nI z else if j = 2 then nI y else if j = 1 then nI x else 0 := fun j hj => by
    show dE1 D a x y z w (a + j) = _
    rw [dE1_a, hD j hj]
  refine ⟨⟨⟨x, 0, 0, 1, v 1 (by omega), v 5 (by omega), v 6 (by omega), v 8 (by omega), hx, by omega, by omega, Or.inl rfl, by omega, by omega⟩, ⟨w, hw, v 4 (by omega)⟩, ⟨y, hy, v 2 (by omega)⟩, ⟨z, hz, hz2, v 3 (by omega)⟩, ⟨0, Nat.two_pow_pos _, v 12 (by omega)⟩, fun k hk hb => ?_, fun s hs => ⟨0, by omega, ?_⟩, fun s k hs hk => ⟨0, by omega, ?_⟩⟩, v 9 (by omega), v 10 (by omega), v 11 (by omega)⟩
  · rw [v 13 (by omega)] at hb; exact absurd hb (bit_0 hk)
  · rw [v (14 + s) (by omega)]
    rcases (show s = 0 ∨ s = 1 by omega) with rfl | rfl <;> rfl
  · rw [v (76 + 30 * s + k) (by omega), if_neg (by omega), if_neg (by omega), if_neg (by omega), if_neg (by omega), if_neg (by omega), if_neg (by omega), if_neg (by omega)]; rfl
theorem pER_iv {B : Nat → Nat} {n a nz x y z w t t' : Nat} {D D' : Nat → Int32} (h : pER B n a (dE1 D a x y z w) t = .inr (D', t')) (hD : ∀ j, j < 136 → D (a + j) = 0) (hx : x < 1095) (hy : y < 1440) (hz : 1 ≤ z) (hz2 : z ≤ 1440) (hw : w < nz) : rE0 D' a nz := by
  have b := pE1_iv (nz := nz) hD hx hy hz hz2 hw
  unfold pER at h
  split at h
  · rcases hp : pRu B n (nx B n t) with e | ⟨r, t5⟩
    · rw [hp] at h; cases h
    rw [hp] at h; dsimp only at h
    simp only [Sum.inr.injEq, Prod.mk.injEq] at h
    obtain ⟨rfl, rfl⟩ := h
    obtain ⟨v, u, yy, v1, v2, u1, u2, y1, y2, r1, r2, r3⟩ := pRu_r hp
    have oo : ∀ j, ¬ j = 5 → ¬ j = 6 → ¬ j = 7 → ¬ j = 8 → rowA (dRu (dE1 D a x y z w) a r) a j = rowA (dE1 D a x y z w) a j := fun j h1 h2 h3 h4 => by
      show dRu _ _ _ (a + j) = _
      rw [dRu_a, if_neg h4, if_neg h3, if_neg h1, if_neg h2]; rfl
    have v5 : rowA (dRu (dE1 D a x y z w) a r) a 5 = nI u := by show dRu _ _ _ (a + 5) = _; rw [dRu_a]; exact r2
    have v6 : rowA (dRu (dE1 D a x y z w) a r) a 6 = nI v := by show dRu _ _ _ (a + 6) = _; rw [dRu_a]; exact r1
    have v8 : rowA (dRu (dE1 D a x y z w) a r) a 8 = nI yy := by show dRu _ _ _ (a + 8) = _; rw [dRu_a]; exact r3
    have va1 : rowA (dE1 D a x y z w) a 1 = nI x := dE1_v.1
    have va12 : rowA (dE1 D a x y z w) a 12 = 0 := by show dE1 _ _ _ _ _ _ (a + 12) = 0; rw [dE1_a]; exact hD 12 (by omega)
    obtain ⟨⟨k1, k2, k3, k4, k5, k6, k7, k8⟩, f9, f10, f11⟩ := b
    refine ⟨⟨⟨x, u, v, yy, (oo 1 (by omega) (by omega) (by omega) (by omega)).trans va1, v5, v6, v8, hx, by omega, by omega, Or.inr v1, y1, y2⟩, ?_, ?_, ?_, ⟨0, Nat.two_pow_pos _, (oo 12 (by omega) (by omega) (by omega) (by omega)).trans va12⟩, fun k hk hb => ?_, fun s hs => ?_, fun s k hs hk => ?_⟩, (oo 9 (by omega) (by omega) (by omega) (by omega)).trans f9, (oo 10 (by omega) (by omega) (by omega) (by omega)).trans f10, (oo 11 (by omega) (by omega) (by omega) (by omega)).trans f11⟩
    · rw [oo 4 (by omega) (by omega) (by omega) (by omega)]; exact k2
    · rw [oo 2 (by omega) (by omega) (by omega) (by omega)]; exact k3
    · rw [oo 3 (by omega) (by omega) (by omega) (by omega)]; exact k4
    · rw [oo 13 (by omega) (by omega) (by omega) (by omega)] at hb
      rw [oo (16 + k) (by omega) (by omega) (by omega) (by omega), oo (46 + k) (by omega) (by omega) (by omega) (by omega)]; exact k6 k hk hb
    · rw [oo (14 + s) (by omega) (by omega) (by omega) (by omega)]; exact k7 s hs
    · rw [oo (76 + 30 * s + k) (by omega) (by omega) (by omega) (by omega)]; exact k8 s k hs hk
  · simp only [Sum.inr.injEq, Prod.mk.injEq] at h
    rw [← h.1]; exact b
theorem pEv_iv {B : Nat → Nat} {n a nz t t' : Nat} {D D' : Nat → Int32} (h : pEv B n a nz D t = .inr (D', t')) (hD : ∀ j, j < 136 → D (a + j) = 0) (hz3 : nz ≤ 3) : rE0 D' a nz ∧ D' a = 1 := by
  unfold pEv at h
  rcases h1 : pN B n 0 1094 t with e | ⟨x, t1⟩
  · rw [h1] at h; cases h
  rw [h1] at h; dsimp only at h
  rcases h2 : pN B n 0 1439 t1 with e | ⟨y, t2⟩
  · rw [h2] at h; cases h
  rw [h2] at h; dsimp only at h
  rcases h3 : pN B n 1 1440 t2 with e | ⟨z, t3⟩
  · rw [h3] at h; cases h
  rw [h3] at h; dsimp only at h
  rcases h4 : pN B n 0 (nI nz - 1) t3 with e | ⟨w, t4⟩
  · rw [h4] at h; cases h
  rw [h4] at h; dsimp only at h
  have b1 := pN_b (N := 1094) (by omega) h1
  have b2 := pN_b (N := 1439) (by omega) h2
  have b3 := pN_b (N := 1440) (by omega) h3
  have b3' := pN_a (N := 1) (by omega) h3
  have b4 := pN_d (by omega) h4
  rcases h5 : pER B n a (dE1 D a x y z w) t4 with e | ⟨D2, t5⟩
  · rw [h5] at h; cases h
  rw [h5] at h; dsimp only at h
  rcases h6 : pEx B n a (rDt (fun j => D2 (a + j))).length (n + 1) D2 t5 with e | ⟨D3, t6⟩
  · rw [h6] at h; cases h
  rw [h6] at h; dsimp only at h
  simp only [Sum.inr.injEq, Prod.mk.injEq] at h
  obtain ⟨rfl, rfl⟩ := h
  have q := pEx_iv (nz := nz) (n + 1) h6 rfl (pER_iv h5 hD (by omega) (by omega) b3' b3 b4)
  have oo : ∀ j, 1 ≤ j → rowA (wS D3 (a + 0) 1) a j = rowA D3 a j := fun j hj => wS_o (by omega)
  exact ⟨⟨q.1.c1 (Nat.le_refl _) (fun j h1 _ => oo j h1), (oo 9 (by omega)).trans q.2.1, (oo 10 (by omega)).trans q.2.2.1, (oo 11 (by omega)).trans q.2.2.2⟩, by rw [Nat.add_zero, wS_e]⟩
theorem nI_720 {v : Nat} (h : v ≤ 720) : nI v = nI (720 + v) - nI 720 ∧ -(nI v) = nI (720 - v) - nI 720 := by
  constructor
  · rw [pk_sub (by omega), Nat.add_sub_cancel_left]
  · apply Int32.toInt_inj.mp
    rw [pk_sub_toInt (by omega) (by omega), Int32.toInt_neg, nI_toInt (by omega)]
    simp only [Int.bmod]
    split <;> omega
theorem pZn_iv {B : Nat → Nat} {n t t' : Nat} {r : Int32 × Int32 × Int32} (h : pZn B n t = .inr (r, t')) : ∃ k, k ≤ 1440 ∧ r.1 = nI k - nI 720 := by
  rw [pZn_12] at h
  rcases h1 : pZ1 B n t with e | ⟨x, t2⟩
  · rw [h1] at h; cases h
  rw [h1] at h; dsimp only at h
  rcases h2 : pZ2 B n t2 with e | ⟨⟨a, b⟩, t4⟩
  · rw [h2] at h; cases h
  rw [h2] at h; dsimp only at h
  simp only [Sum.inr.injEq, Prod.mk.injEq] at h
  obtain ⟨rfl, rfl⟩ := h
  unfold pZ1 at h1
  rcases h3 : pN B n 0 720 (if tIs B n t 45 = true then nx B n t else t) with e | ⟨v, t3⟩
  · rw [h3] at h1; cases h1
  rw [h3] at h1; dsimp only at h1
  have b := pN_b (N := 720) (by omega) h3
  simp only [Sum.inr.injEq, Prod.mk.injEq] at h1
  obtain ⟨rfl, rfl⟩ := h1
  have q := nI_720 b
  by_cases c : tIs B n t 45 = true
  · exact ⟨720 - v, by omega, by rw [if_pos c]; exact q.2⟩
  · exact ⟨720 + v, by omega, by rw [if_neg c]; exact q.1⟩
/-- the pure draft's ranges -/
def gDr (D : Nat → Int32) (nz ne : Nat) : Prop := (∀ z, z < 3 → D (4 * z + 3) = 0) ∧ (∀ z, z < nz → ∃ k, k ≤ 1440 ∧ D (4 * z) = nI k - nI 720) ∧ (nz = 0 → D 0 = 0) ∧ dZr D ne ∧ (nz ≤ 3 ∧ ne ≤ 8) ∧ ∀ e, e < ne → rE0 D (12 + 136 * e) nz ∧ D (12 + 136 * e) = 1
theorem gDr_0 {D : Nat → Int32} : gDr (zD 1100 D) 0 0 := ⟨fun z hz => if_pos (by omega), fun z hz => absurd hz (by omega), fun _ => if_pos (by omega), dZr_0, ⟨by omega, by omega⟩, fun e he => absurd he (by omega)⟩
theorem dZ_n {D : Nat → Int32} {z j : Nat} {r : Int32 × Int32 × Int32} (h : ¬ j = 4 * z) (h1 : ¬ j = 4 * z + 1) (h2 : ¬ j = 4 * z + 2) : dZ D z r j = D j := by
  unfold dZ; rw [wS_o h2, wS_o h1, wS_o h]
theorem dZ_0 {D : Nat → Int32} {z : Nat} {r : Int32 × Int32 × Int32} : dZ D z r (4 * z) = r.1 := by
  unfold dZ; rw [wS_o (by omega), wS_o (by omega), wS_e]
theorem pSt_iv {B : Nat → Nat} {n nz ne t t' : Nat} {D : Nat → Int32} {d : (Nat → Int32) × Nat × Nat} (h : pSt B n D nz ne t = .inr (d, t')) (hg : gDr D nz ne) : gDr d.1 d.2.1 d.2.2 := by
  obtain ⟨g1, g2, g3, g4, ⟨g5, g6⟩, g7⟩ := hg
  have g4' := dZr_st h g5 g4
  unfold pSt at h
  split at h
  · split at h
    · cases h
    · rename_i c3
      rcases hp : pZn B n (nx B n t) with e | ⟨a, t2⟩
      · rw [hp] at h; cases h
      rw [hp] at h; dsimp only at h
      simp only [Sum.inr.injEq, Prod.mk.injEq] at h
      obtain ⟨rfl, rfl⟩ := h
      dsimp only at g4' ⊢
      refine ⟨fun z hz => ?_, fun z hz => ?_, fun z => by omega, g4', ⟨by omega, g6⟩, fun e he => ?_⟩
      · rw [dZ_n (by omega) (by omega) (by omega)]; exact g1 z hz
      · by_cases q : z = nz
        · subst q; rw [dZ_0]; exact pZn_iv hp
        · rw [dZ_n (by omega) (by omega) (by omega)]; exact g2 z (by omega)
      · obtain ⟨⟨a1, a2, a3, a4⟩, a5⟩ := g7 e he
        have oo : ∀ j, dZ D nz a (12 + 136 * e + j) = D (12 + 136 * e + j) := fun j => dZ_o (by omega) (by omega)
        exact ⟨⟨a1.c1 (by omega) (fun j _ _ => oo j), (oo 9).trans a2, (oo 10).trans a3, (oo 11).trans a4⟩, (oo 0).trans a5⟩
  · split at h
    · split at h
      · cases h
      · rename_i c3
        rcases hp : pEv B n (12 + 136 * ne) nz D (nx B n t) with e | ⟨D2, t2⟩
        · rw [hp] at h; cases h
        rw [hp] at h; dsimp only at h
        have go := (pEv_go hp).2
        have iv := pEv_iv hp (fun j hj => g4 ne (Nat.le_refl _) (by omega) j hj) g5
        simp only [Sum.inr.injEq, Prod.mk.injEq] at h
        obtain ⟨rfl, rfl⟩ := h
        dsimp only at g4' ⊢
        unfold oA at go
        refine ⟨fun z hz => (go _ (by omega)).trans (g1 z hz), fun z hz => ?_, fun z => (go _ (by omega)).trans (g3 z), g4', ⟨g5, by omega⟩, fun e he => ?_⟩
        · rw [go _ (by omega)]; exact g2 z hz
        · by_cases q : e = ne
          · subst q; exact iv
          · obtain ⟨⟨a1, a2, a3, a4⟩, a5⟩ := g7 e (by omega)
            have oo : ∀ j, j < 136 → D2 (12 + 136 * e + j) = D (12 + 136 * e + j) := fun j hj => go _ (by omega)
            exact ⟨⟨a1.c1 (Nat.le_refl _) (fun j _ hj => oo j hj), (oo 9 (by omega)).trans a2, (oo 10 (by omega)).trans a3, (oo 11 (by omega)).trans a4⟩, (oo 0 (by omega)).trans a5⟩
    · cases h
theorem pCal_iv {B : Nat → Nat} {n : Nat} : ∀ f {D : Nat → Int32} {nz ne t t' : Nat} {d : (Nat → Int32) × Nat × Nat}, pCal B n f D nz ne t = .inr (d, t') → gDr D nz ne → gDr d.1 d.2.1 d.2.2 := by
  intro f
  induction f with
  | zero =>
    intro D nz ne t t' d h hd
    simp only [pCal, Sum.inr.injEq, Prod.mk.injEq] at h
    rw [← h.1]; exact hd
  | succ f ih =>
    intro D nz ne t t' d h hd
    rw [pCal_s] at h
    split at h
    · rcases hp : pSt B n D nz ne t with e | ⟨d2, t2⟩
      · rw [hp] at h; cases h
      · rw [hp] at h; dsimp only at h
        split at h
        · exact ih h (pSt_iv hp hd)
        · cases h
    · simp only [Sum.inr.injEq, Prod.mk.injEq] at h
      rw [← h.1]; exact hd
theorem rCal_iv {B : Nat → Nat} {n : Nat} {D : Nat → Int32} {t' : Nat} {d : (Nat → Int32) × Nat × Nat} (h : rCal B n D = .inr (d, t')) : gDr d.1 d.2.1 d.2.2 := pCal_iv _ h gDr_0
end
