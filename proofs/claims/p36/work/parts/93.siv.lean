/-! THE ROW: its invariant, over the acts of a side. -/
section
variable {l : Launch} {g : EG}
theorem sIv.act {s s' : Nat → Int32} {nz q e : Nat} (h : sIv s nz) (hq : q < 2) (he : e < 8) (hs : ∀ j, j < 3324 → (j < eAt q e ∨ eAt q e + 136 ≤ j) → s' j = s j) (h01 : s' (eAt q e) = 0 ∨ s' (eAt q e) = 1) (hev : s' (eAt q e) = 1 → rEv (rowE s' q e) nz) (f0 : s' (eAt q e + 10) = 0 ∨ s' (eAt q e + 10) = 1) (f1 : s' (eAt q e + 11) = 0 ∨ s' (eAt q e + 11) = 1) (f2 : s' (eAt q e + 11) = 1 → s' (eAt q e + 10) = 0 → s' (eAt q e) = 1) : sIv s' nz := by
  have rE := eAt_rng (p := q) (e := e) (by omega) he
  obtain ⟨⟨c, L, a1, a2, a3, a4, a5, a6⟩, b, st, fl, lg, nn⟩ := h
  have lo : ∀ j, j < 36 → s' j = s j := fun j hj => hs j (by omega) (by omega)
  have o : ∀ p e' i, p < 3 → e' < 8 → i < 136 → ¬ (p = q ∧ e' = e) → s' (eAt p e' + i) = s (eAt p e' + i) := fun p e' i h1 h2 h3 h4 => hs _ (by have := eAt_rng h1 h2; omega) (eAt_ne h1 (by omega) h2 he h3 (by omega))
  refine ⟨⟨c, L, (lo 0 (by omega)).trans a1, a2, (lo 23 (by omega)).trans a3, a4, a5, fun t ht => ?_⟩, fun p hp e' he' => ?_, fun e' he' => ?_, fun q' hq' e' he' => ?_, fun i L' h1 h2 h3 => ?_, nn⟩
  · obtain ⟨k, k1, k2⟩ := a6 t ht
    exact ⟨k, (lo (1 + t) (by omega)).trans k1, k2⟩
  · by_cases c : p = q ∧ e' = e
    · obtain ⟨rfl, rfl⟩ := c; exact ⟨h01, hev⟩
    · have o0 := o p e' 0 hp he' (by omega) c
      rw [Nat.add_zero] at o0
      rw [o0]
      refine ⟨(b p hp e' he').1, fun z => ?_⟩
      have k := (b p hp e' he').2 z
      have oo : ∀ i, i < 136 → rowE s' p e' i = rowE s p e' i := fun i hi => o p e' i hp he' hi c
      obtain ⟨k1, k2, k3, k4, k5, k6, k7, k8⟩ := k
      have d0 : rDt (rowE s' p e') = rDt (rowE s p e') := rDt_c (fun j hj => oo j (by omega))
      refine ⟨?_, ?_, ?_, ?_, ?_, fun i hi hb => ?_, fun w hw => ?_, fun w i hw hi => ?_⟩
      · unfold rOk at *; rw [oo 1 (by omega), oo 5 (by omega), oo 6 (by omega), oo 8 (by omega)]; exact k1
      · rw [oo 4 (by omega)]; exact k2
      · rw [oo 2 (by omega)]; exact k3
      · rw [oo 3 (by omega)]; exact k4
      · rw [d0, oo 12 (by omega)]; exact k5
      · rw [oo 13 (by omega)] at hb; rw [oo (16 + i) (by omega), oo (46 + i) (by omega)]; exact k6 i hi hb
      · rw [oo (14 + w) (by omega)]; exact k7 w hw
      · rw [oo (76 + 30 * w + i) (by omega)]; exact k8 w i hw hi
  · have o0 := o 2 e' 0 (by omega) he' (by omega) (by omega)
    rw [Nat.add_zero] at o0
    rw [o0, o 2 e' 9 (by omega) he' (by omega) (by omega)]
    exact st e' he'
  · by_cases c : q' = q ∧ e' = e
    · obtain ⟨rfl, rfl⟩ := c; exact ⟨f0, f1, f2⟩
    · have o0 := o q' e' 0 (by omega) he' (by omega) c
      rw [Nat.add_zero] at o0
      rw [o0, o q' e' 10 (by omega) he' (by omega) c, o q' e' 11 (by omega) he' (by omega) c]
      exact fl q' hq' e' he'
  · rw [lo 23 (by omega)] at h1
    rw [lo (15 + i) (by omega)]
    exact lg i L' h1 h2 h3
theorem sZo.act {s s' : Nat → Int32} {nz q e : Nat} (h : sZo s nz) (hnz : nz ≤ 3) (hq : q < 3) (he : e < 8) (hs : ∀ j, j < 3324 → (j < eAt q e ∨ eAt q e + 136 ≤ j) → s' j = s j) : sZo s' nz := fun p hp z hz => by
  have l := zAt_lt (p := p) (z := z) (j := 0) (e := e) (p' := q) hp hq (by omega) (by omega) he
  rw [hs (zAt p z) (by omega) (by omega)]
  exact h p hp z hz
theorem rEv.c {r r' : Nat → Int32} {nz : Nat} (h : rEv r nz) (h8 : ∀ j, j ≤ 8 → r' j = r j) (h12 : ∃ k, k < 2 ^ (rDt r).length ∧ r' 12 = nI k)
    (hm : ∀ k, k < 30 → e_bit (r' 13) (nI k) → ∃ d m, d < 1095 ∧ m < 1440 ∧ r' (16 + k) = nI d ∧ r' (46 + k) = nI m) (hw : ∀ s, s < 2 → ∃ k, k < 4 ∧ r' (14 + s) = nI k) (hg : ∀ s k, s < 2 → k < 30 → ∃ v, v < 4 ∧ r' (76 + 30 * s + k) = nI v) : rEv r' nz := by
  obtain ⟨k1, k2, k3, k4, k5, k6, k7, k8⟩ := h
  refine ⟨?_, ?_, ?_, ?_, ?_, hm, hw, hg⟩
  · unfold rOk at *; rw [h8 1 (by omega), h8 5 (by omega), h8 6 (by omega), h8 8 (by omega)]; exact k1
  · rw [h8 4 (by omega)]; exact k2
  · rw [h8 2 (by omega)]; exact k3
  · rw [h8 3 (by omega)]; exact k4
  · rw [rDt_c h8]; exact h12
theorem one_n : ∀ d, d < 31 → (1 : Int32) <<< (nI d &&& 31) = nI (2 ^ d) := by decide +kernel
theorem tn_xor (x y : Int32) : tn (x ^^^ y) = tn x ^^^ tn y := rfl
theorem xor_n {a b n : Nat} (hn : n ≤ 30) (ha : a < 2 ^ n) (hb : b < 2 ^ n) : nI a ^^^ nI b = nI (a ^^^ b) ∧ (a ^^^ b) < 2 ^ n := by
  have h1 : a ^^^ b < 2 ^ n := Nat.xor_lt_two_pow ha hb
  have h2 : 2 ^ n ≤ 2 ^ 30 := Nat.pow_le_pow_right (by omega) hn
  refine ⟨tn_inj ?_, h1⟩
  rw [tn_xor, tn_nI (by omega), tn_nI (by omega), tn_nI (by omega)]
theorem rowE_at {s : Nat → Int32} {q e j : Nat} : rowE s q e j = s (eAt q e + j) := rfl
theorem bit_or {b : Int32} {d k : Nat} (hd : d < 30) (hk : k < 30) : e_bit (b ||| (1 <<< (nI d &&& 31))) (nI k) ↔ e_bit b (nI k) ∨ k = d := by
  rw [e_bit_lsb _ (by omega), e_bit_lsb _ (by omega), Int32.toBitVec_or, BitVec.getLsbD_or, one_lsb d (by omega) k (by omega)]
  simp
theorem bit_an {b : Int32} {d k : Nat} (hd : d < 30) (hk : k < 30) : e_bit (b &&& ((1 <<< (nI d &&& 31)) ^^^ (-1))) (nI k) ↔ e_bit b (nI k) ∧ ¬ k = d := by
  rw [e_bit_lsb _ (by omega), e_bit_lsb _ (by omega), Int32.toBitVec_and, BitVec.getLsbD_and, not_lsb _ (by omega), one_lsb d (by omega) k (by omega)]
  simp
section
variable {s : Nat → Int32} {q e nz : Nat}
theorem sRm_o {a j : Nat} (h : ¬ j = a + 0) (h2 : ¬ j = a + 10) : sRm s a j = s j := by unfold sRm; rw [wS_o h2, wS_o h]
theorem sRm_iv (h : sIv s nz) (hq : q < 2) (he : e < 8) : sIv (sRm s (eAt q e)) nz := by
  have rE := eAt_rng (p := q) (e := e) (by omega) he
  have v0 : sRm s (eAt q e) (eAt q e) = 0 := by
    show sRm s (eAt q e) (eAt q e + 0) = 0
    unfold sRm; rw [wS_o (by omega), wS_e]
  have v10 : sRm s (eAt q e) (eAt q e + 10) = 1 := by unfold sRm; rw [wS_e]
  have fl := h.2.2.2.1 q hq e he
  refine h.act hq he (fun j hj h1 => sRm_o (by omega) (by omega)) (Or.inl v0) (fun z => absurd (v0.symm.trans z) (by decide)) (Or.inr v10) ?_ (fun _ z => absurd (v10.symm.trans z) (by decide))
  rw [sRm_o (by omega) (by omega)]; exact fl.2.1
theorem sCa_o {a d j : Nat} (h : ¬ j = a + 12) (h2 : ¬ j = a + 10) : sCa s a d j = s j := by unfold sCa; rw [wS_o h2, wS_o h]
theorem sCa_iv {d : Nat} (h : sIv s nz) (hq : q < 2) (he : e < 8) (h1 : s (eAt q e) = 1) (hd : d < (rDt (rowE s q e)).length) : sIv (sCa s (eAt q e) d) nz ∧ (∃ k, k < 2 ^ (rDt (rowE s q e)).length ∧ sCa s (eAt q e) d (eAt q e + 12) = nI k) := by
  have rE := eAt_rng (p := q) (e := e) (by omega) he
  have ev := (h.2.1 q (by omega) e he).2 h1
  have l30 := rDt_le (rowE s q e)
  have v12 : ∃ k, k < 2 ^ (rDt (rowE s q e)).length ∧ sCa s (eAt q e) d (eAt q e + 12) = nI k := by
    obtain ⟨k, hk, ek⟩ := ev.2.2.2.2.1
    replace ek : s (eAt q e + 12) = nI k := ek
    have := xor_n (a := k) (b := 2 ^ d) l30 hk (Nat.pow_lt_pow_right (by omega) hd)
    refine ⟨k ^^^ 2 ^ d, this.2, ?_⟩
    unfold sCa; rw [wS_o (by omega), wS_e, ek, one_n d (by omega), this.1]
  refine ⟨?_, v12⟩
  have v0 : sCa s (eAt q e) d (eAt q e) = s (eAt q e) := sCa_o (by omega) (by omega)
  have v10 : sCa s (eAt q e) d (eAt q e + 10) = 1 := by unfold sCa; rw [wS_e]
  have fl := h.2.2.2.1 q hq e he
  have oo : ∀ i, ¬ i = 10 → ¬ i = 12 → rowE (sCa s (eAt q e) d) q e i = rowE s q e i := fun i h1 h2 => sCa_o (by omega) (by omega)
  refine h.act hq he (fun j hj h1 => sCa_o (by omega) (by omega)) (Or.inr (v0.trans h1)) (fun _ => ?_) (Or.inr v10) (by rw [sCa_o (by omega) (by omega)]; exact fl.2.1) (fun _ z => absurd (v10.symm.trans z) (by decide))
  refine ev.c (fun j hj => oo j (by omega) (by omega)) v12 (fun k hk hb => ?_) (fun w hw => ?_) (fun w k hw hk => ?_)
  · rw [oo 13 (by omega) (by omega)] at hb
    rw [oo (16 + k) (by omega) (by omega), oo (46 + k) (by omega) (by omega)]; exact ev.2.2.2.2.2.1 k hk hb
  · rw [oo (14 + w) (by omega) (by omega)]; exact ev.2.2.2.2.2.2.1 w hw
  · rw [oo (76 + 30 * w + k) (by omega) (by omega)]; exact ev.2.2.2.2.2.2.2 w k hw hk
theorem sMv_o {a d j : Nat} {dy mi : Int32} (h1 : ¬ j = a + 10) (h2 : ¬ j = a + 13) (h3 : ¬ j = a + 16 + d) (h4 : ¬ j = a + 46 + d) : sMv s a d dy mi j = s j := by unfold sMv; rw [wS_o h4, wS_o h3, wS_o h2, wS_o h1]
theorem sMv_iv {d : Nat} {dy mi : Int32} (h : sIv s nz) (hq : q < 2) (he : e < 8) (h1 : s (eAt q e) = 1) (hd : d < 30) (hG : rGM dy mi) : sIv (sMv s (eAt q e) d dy mi) nz := by
  have rE := eAt_rng (p := q) (e := e) (by omega) he
  have ev := (h.2.1 q (by omega) e he).2 h1
  have v0 : sMv s (eAt q e) d dy mi (eAt q e) = s (eAt q e) := sMv_o (by omega) (by omega) (by omega) (by omega)
  have v10 : sMv s (eAt q e) d dy mi (eAt q e + 10) = 1 := by unfold sMv; rw [wS_o (by omega), wS_o (by omega), wS_o (by omega), wS_e]
  have v13 : sMv s (eAt q e) d dy mi (eAt q e + 13) = if dy = -1 then s (eAt q e + 13) &&& ((1 <<< (nI d &&& 31)) ^^^ (-1)) else s (eAt q e + 13) ||| (1 <<< (nI d &&& 31)) := by unfold sMv; rw [wS_o (by omega), wS_o (by omega), wS_e]
  have fl := h.2.2.2.1 q hq e he
  have oo : ∀ i, i < 136 → ¬ i = 10 → ¬ i = 13 → ¬ i = 16 + d → ¬ i = 46 + d → rowE (sMv s (eAt q e) d dy mi) q e i = rowE s q e i := fun i h0 h1 h2 h3 h4 => sMv_o (by omega) (by omega) (by omega) (by omega)
  refine h.act hq he (fun j hj h1 => sMv_o (by omega) (by omega) (by omega) (by omega)) (Or.inr (v0.trans h1)) (fun _ => ?_) (Or.inr v10) (by rw [sMv_o (by omega) (by omega) (by omega) (by omega)]; exact fl.2.1) (fun _ z => absurd (v10.symm.trans z) (by decide))
  refine ev.c (fun j hj => oo j (by omega) (by omega) (by omega) (by omega) (by omega)) ?_ (fun k hk hb => ?_) (fun w hw => ?_) (fun w k hw hk => ?_)
  · rw [oo 12 (by omega) (by omega) (by omega) (by omega) (by omega)]; exact ev.2.2.2.2.1
  · rw [rowE_at, v13] at hb
    by_cases c : dy = -1
    · rw [if_pos c, bit_an hd hk] at hb
      rw [oo (16 + k) (by omega) (by omega) (by omega) (by omega) (by omega), oo (46 + k) (by omega) (by omega) (by omega) (by omega) (by omega)]; exact ev.2.2.2.2.2.1 k hk hb.1
    · rw [if_neg c, bit_or hd hk] at hb
      by_cases z : k = d
      · subst z
        obtain ⟨g1, g2⟩ := hG.resolve_left c
        obtain ⟨a, ha, ea⟩ := i1094 g1
        obtain ⟨b, hb2, eb⟩ := inN (N := 1439) (by omega) g2
        refine ⟨a, b, ha, by omega, ?_, ?_⟩
        · rw [rowE_at, show eAt q e + (16 + k) = eAt q e + 16 + k by omega]; unfold sMv; rw [wS_o (by omega), wS_e, if_neg c, ea]
        · rw [rowE_at, show eAt q e + (46 + k) = eAt q e + 46 + k by omega]; unfold sMv; rw [wS_e, if_neg c, eb]
      · rw [oo (16 + k) (by omega) (by omega) (by omega) (by omega) (by omega), oo (46 + k) (by omega) (by omega) (by omega) (by omega) (by omega)]; exact ev.2.2.2.2.2.1 k hk (hb.resolve_right z)
  · rw [oo (14 + w) (by omega) (by omega) (by omega) (by omega) (by omega)]; exact ev.2.2.2.2.2.2.1 w hw
  · rw [oo (76 + 30 * w + k) (by omega) (by omega) (by omega) (by omega) (by omega)]; exact ev.2.2.2.2.2.2.2 w k hw hk
theorem sRe_o {a k j : Nat} {v : Int32} (h1 : ¬ j = a + k) (h2 : ¬ j = a + 11) : sRe s a k v j = s j := by unfold sRe; rw [wS_o h2, wS_o h1]
theorem sRe_iv {i v : Nat} (h : sIv s nz) (hq : q < 2) (he : e < 8) (h1 : s (eAt q e) = 1) (hv : v < 4) (hi : i = 14 + q ∨ (76 + 30 * q ≤ i ∧ i < 76 + 30 * q + 30)) : sIv (sRe s (eAt q e) i (nI v)) nz := by
  have rE := eAt_rng (p := q) (e := e) (by omega) he
  have ev := (h.2.1 q (by omega) e he).2 h1
  have v0 : sRe s (eAt q e) i (nI v) (eAt q e) = s (eAt q e) := sRe_o (by omega) (by omega)
  have v11 : sRe s (eAt q e) i (nI v) (eAt q e + 11) = 1 := by unfold sRe; rw [wS_e]
  have vi : sRe s (eAt q e) i (nI v) (eAt q e + i) = nI v := by unfold sRe; rw [wS_o (by omega), wS_e]
  have fl := h.2.2.2.1 q hq e he
  have oo : ∀ j, ¬ j = 11 → ¬ j = i → rowE (sRe s (eAt q e) i (nI v)) q e j = rowE s q e j := fun j h1 h2 => sRe_o (by omega) (by omega)
  refine h.act hq he (fun j hj h1 => sRe_o (by omega) (by omega)) (Or.inr (v0.trans h1)) (fun _ => ?_) (by rw [sRe_o (by omega) (by omega)]; exact fl.1) (Or.inr v11) (fun _ _ => v0.trans h1)
  refine ev.c (fun j hj => oo j (by omega) (by omega)) ?_ (fun k hk hb => ?_) (fun w hw => ?_) (fun w k hw hk => ?_)
  · rw [oo 12 (by omega) (by omega)]; exact ev.2.2.2.2.1
  · rw [oo 13 (by omega) (by omega)] at hb
    rw [oo (16 + k) (by omega) (by omega), oo (46 + k) (by omega) (by omega)]; exact ev.2.2.2.2.2.1 k hk hb
  · by_cases z : 14 + w = i
    · rw [z]; exact ⟨v, hv, vi⟩
    · rw [oo (14 + w) (by omega) z]; exact ev.2.2.2.2.2.2.1 w hw
  · by_cases z : 76 + 30 * w + k = i
    · rw [z]; exact ⟨v, hv, vi⟩
    · rw [oo (76 + 30 * w + k) (by omega) z]; exact ev.2.2.2.2.2.2.2 w k hw hk
theorem sCr_o {a j : Nat} {d mi ln z : Int32} (h : j < a ∨ a + 136 ≤ j) : sCr s a d mi ln z j = s j := by
  unfold sCr rClr
  rw [if_neg (by omega)]
  simp (disch := omega) only [wS_o]
theorem sCr_v {a i : Nat} {d mi ln z : Int32} (h : i < 136) : sCr s a d mi ln z (a + i) = if (12 ≤ i ∧ i < 14) ∨ 16 ≤ i then 0 else if i = 15 then 0 else if i = 14 then 0 else if i = 10 then 1 else if i = 8 then 1 else if i = 7 then 0 else if i = 6 then 0 else if i = 5 then 0 else if i = 4 then z else if i = 3 then ln else if i = 2 then mi else if i = 1 then d else if i = 0 then 1 else s (a + i) := by
  unfold sCr rClr wS
  simp only [Nat.add_left_cancel_iff, Nat.add_le_add_iff_left, Nat.add_lt_add_iff_left, h, and_true]
theorem bit_0 {k : Nat} (hk : k < 30) : ¬ e_bit 0 (nI k) := by rw [e_bit_lsb _ (by omega)]; simp
theorem sCr_iv {d mi ln z : Nat} (h : sIv s nz) (hq : q < 2) (he : e < 8) (hd : d < 1095) (hm : mi < 1440) (hl : 1 ≤ ln) (hl2 : ln ≤ 1440) (hz : z < nz) : sIv (sCr s (eAt q e) (nI d) (nI mi) (nI ln) (nI z)) nz := by
  have rE := eAt_rng (p := q) (e := e) (by omega) he
  have fl := h.2.2.2.1 q hq e he
  have v : ∀ i, i < 136 → rowE (sCr s (eAt q e) (nI d) (nI mi) (nI ln) (nI z)) q e i = _ := fun i hi => sCr_v hi
  have v0 : sCr s (eAt q e) (nI d) (nI mi) (nI ln) (nI z) (eAt q e) = 1 := v 0 (by omega)
  have v10 : sCr s (eAt q e) (nI d) (nI mi) (nI ln) (nI z) (eAt q e + 10) = 1 := v 10 (by omega)
  have v11 : sCr s (eAt q e) (nI d) (nI mi) (nI ln) (nI z) (eAt q e + 11) = s (eAt q e + 11) := v 11 (by omega)
  refine h.act hq he (fun j hj h1 => sCr_o h1) (Or.inr v0) (fun _ => ?_) (Or.inr v10) (by rw [v11]; exact fl.2.1) (fun _ z => absurd (v10.symm.trans z) (by decide))
  refine ⟨⟨d, 0, 0, 1, v 1 (by omega), v 5 (by omega), v 6 (by omega), v 8 (by omega), hd, by omega, by omega, Or.inl rfl, by omega, by omega⟩, ⟨z, hz, v 4 (by omega)⟩, ⟨mi, hm, v 2 (by omega)⟩, ⟨ln, hl, hl2, v 3 (by omega)⟩, ⟨0, Nat.two_pow_pos _, v 12 (by omega)⟩, fun k hk hb => ?_, fun w hw => ?_, fun w k hw hk => ?_⟩
  · rw [v 13 (by omega)] at hb; exact absurd hb (bit_0 hk)
  · refine ⟨0, by omega, ?_⟩
    rcases (show w = 0 ∨ w = 1 by omega) with rfl | rfl
    · exact v 14 (by omega)
    · exact v 15 (by omega)
  · refine ⟨0, by omega, ?_⟩
    rw [v _ (by omega), if_pos (by omega)]; rfl
theorem sRp_o {a j : Nat} {kd n w t : Int32} (h : j < a ∨ a + 136 ≤ j) : sRp s a kd n w t j = s j := by
  unfold sRp rClr
  rw [if_neg (by omega)]
  simp (disch := omega) only [wS_o]
theorem sRp_v {a i : Nat} {kd n w t : Int32} (h : i < 136) : sRp s a kd n w t (a + i) = if (12 ≤ i ∧ i < 14) ∨ 16 ≤ i then 0 else if i = 10 then 1 else if i = 8 then (if kd = 0 then 1 else t) else if i = 7 then (if kd = 2 then w else 0) else if i = 6 then (if kd = 0 then 0 else n) else if i = 5 then kd else s (a + i) := by
  unfold sRp rClr wS
  simp only [Nat.add_left_cancel_iff, Nat.add_le_add_iff_left, Nat.add_lt_add_iff_left, h, and_true]
theorem sRp_rd {kd n w t : Int32} : rDt (fun j => sRp s (eAt q e) kd n w t (eAt q e + j)) = e_dts kd.toNatClampNeg (s (eAt q e + 1)).toNatClampNeg (if kd = 0 then (0 : Int32) else n).toNatClampNeg (if kd = 0 then (1 : Int32) else t).toNatClampNeg (if kd = 2 then w else 0) := by
  have v : ∀ i, i < 136 → sRp s (eAt q e) kd n w t (eAt q e + i) = _ := fun i hi => sRp_v hi
  unfold rDt
  have v5 : sRp s (eAt q e) kd n w t (eAt q e + 5) = kd := v 5 (by omega)
  have v1 : sRp s (eAt q e) kd n w t (eAt q e + 1) = s (eAt q e + 1) := v 1 (by omega)
  have v6 : sRp s (eAt q e) kd n w t (eAt q e + 6) = if kd = 0 then 0 else n := v 6 (by omega)
  have v8 : sRp s (eAt q e) kd n w t (eAt q e + 8) = if kd = 0 then 1 else t := v 8 (by omega)
  have v7 : sRp s (eAt q e) kd n w t (eAt q e + 7) = if kd = 2 then w else 0 := v 7 (by omega)
  dsimp only
  rw [v5, v1, v6, v8, v7]
/-- a rule in its ranges -/
def rGRn (kd n t : Nat) : Prop := kd ≤ 3 ∧ (kd = 0 ∨ (1 ≤ n ∧ n ≤ 9 ∧ 1 ≤ t ∧ t ≤ 30))
theorem sRp_ok {kd n t : Nat} {w : Int32} (h : sIv s nz) (hq : q < 2) (he : e < 8) (h1 : s (eAt q e) = 1) (hg : rGRn kd n t) : rOk (fun j => sRp s (eAt q e) (nI kd) (nI n) w (nI t) (eAt q e + j)) := by
  have ev := (h.2.1 q (by omega) e he).2 h1
  obtain ⟨d, kd', n', t', a1, a2, a3, a4, a5, a6, a7, a8, a9, a10⟩ := ev.1
  have v : ∀ i, i < 136 → sRp s (eAt q e) (nI kd) (nI n) w (nI t) (eAt q e + i) = _ := fun i hi => sRp_v hi
  have k0 : nI kd = 0 ↔ kd = 0 := nI_eq (b := 0) (by have := hg.1; omega) (by omega)
  have v1 : sRp s (eAt q e) (nI kd) (nI n) w (nI t) (eAt q e + 1) = nI d := (v 1 (by omega)).trans a1
  have v5 : sRp s (eAt q e) (nI kd) (nI n) w (nI t) (eAt q e + 5) = nI kd := v 5 (by omega)
  have v6 : sRp s (eAt q e) (nI kd) (nI n) w (nI t) (eAt q e + 6) = if nI kd = 0 then 0 else nI n := v 6 (by omega)
  have v8 : sRp s (eAt q e) (nI kd) (nI n) w (nI t) (eAt q e + 8) = if nI kd = 0 then 1 else nI t := v 8 (by omega)
  by_cases c : kd = 0
  · subst c
    exact ⟨d, 0, 0, 1, v1, v5, v6, v8, a5, by omega, by omega, Or.inl rfl, by omega, by omega⟩
  · have g := hg.2.resolve_left c
    rw [if_neg (by rw [k0]; exact c)] at v6 v8
    exact ⟨d, kd, n, t, v1, v5, v6, v8, a5, hg.1, by omega, Or.inr g.1, g.2.2.1, g.2.2.2⟩
theorem sRp_iv {kd n t : Nat} {w : Int32} (h : sIv s nz) (hq : q < 2) (he : e < 8) (h1 : s (eAt q e) = 1) (hg : rGRn kd n t) : sIv (sRp s (eAt q e) (nI kd) (nI n) w (nI t)) nz := by
  have rE := eAt_rng (p := q) (e := e) (by omega) he
  have fl := h.2.2.2.1 q hq e he
  have ev := (h.2.1 q (by omega) e he).2 h1
  have ok := sRp_ok (w := w) h hq he h1 hg
  have v : ∀ i, i < 136 → rowE (sRp s (eAt q e) (nI kd) (nI n) w (nI t)) q e i = _ := fun i hi => sRp_v hi
  have v0 : sRp s (eAt q e) (nI kd) (nI n) w (nI t) (eAt q e) = s (eAt q e) := v 0 (by omega)
  have v10 : sRp s (eAt q e) (nI kd) (nI n) w (nI t) (eAt q e + 10) = 1 := v 10 (by omega)
  have v11 : sRp s (eAt q e) (nI kd) (nI n) w (nI t) (eAt q e + 11) = s (eAt q e + 11) := v 11 (by omega)
  obtain ⟨k1, k2, k3, k4, k5, k6, k7, k8⟩ := ev
  refine h.act hq he (fun j hj h1 => sRp_o h1) (Or.inr (v0.trans h1)) (fun _ => ?_) (Or.inr v10) (by rw [v11]; exact fl.2.1) (fun _ z => absurd (v10.symm.trans z) (by decide))
  refine ⟨ok, ?_, ?_, ?_, ⟨0, Nat.two_pow_pos _, v 12 (by omega)⟩, fun k hk hb => ?_, fun w hw => ?_, fun w k hw hk => ?_⟩
  · rw [show rowE (sRp s (eAt q e) (nI kd) (nI n) w (nI t)) q e 4 = rowE s q e 4 from v 4 (by omega)]; exact k2
  · rw [show rowE (sRp s (eAt q e) (nI kd) (nI n) w (nI t)) q e 2 = rowE s q e 2 from v 2 (by omega)]; exact k3
  · rw [show rowE (sRp s (eAt q e) (nI kd) (nI n) w (nI t)) q e 3 = rowE s q e 3 from v 3 (by omega)]; exact k4
  · rw [v 13 (by omega)] at hb; exact absurd hb (bit_0 hk)
  · rcases (show w = 0 ∨ w = 1 by omega) with rfl | rfl
    · rw [show rowE (sRp s (eAt q e) (nI kd) (nI n) _ (nI t)) q e (14 + 0) = rowE s q e (14 + 0) from v 14 (by omega)]; exact k7 0 (by omega)
    · rw [show rowE (sRp s (eAt q e) (nI kd) (nI n) _ (nI t)) q e (14 + 1) = rowE s q e (14 + 1) from v 15 (by omega)]; exact k7 1 (by omega)
  · refine ⟨0, by omega, ?_⟩
    rw [v _ (by omega), if_pos (by omega)]; rfl
end
end
