/-! THE PAIR, 2: the invariant over an act, undo, keep, restore. -/
section
variable {l : Launch} {g : EG}
theorem eqR.sI {M : EM} {lo hi h j : Nat} {v : Int32} (hh : h < lo ∨ hi ≤ h) : eqR M (sI M h j v) lo hi := fun c c1 c2 k => ⟨by rw [mI_sI, if_neg (by omega)], rfl⟩
theorem eqR.sN {M : EM} {lo hi n : Nat} : eqR M (sN M n) lo hi := fun c _ _ k => ⟨rfl, rfl⟩
theorem eqR.sL {M : EM} {lo hi h j : Nat} {v : Int64} (hh : h < lo ∨ hi ≤ h) : eqR M (sL M h j v) lo hi := fun c c1 c2 k => ⟨rfl, by rw [mL_sL, if_neg (by omega)]⟩
theorem svP.eq {M M1 : EM} {x a c lo hi : Nat} (h : svP M M1 (x + 195) (x + 50) a c) (h1 : hi ≤ x + 197 + 145 * a ∨ x + 197 + 145 * a + 145 ≤ lo) (h2 : hi ≤ x + 195 ∨ x + 196 ≤ lo) : eqR M M1 lo hi := by
  obtain ⟨M0, f, -, rfl⟩ := h
  exact ((f.eq (by omega)).tr (eqR.sI (by omega))).tr (eqR.sI (by omega))
theorem svP.new {M M1 : EM} {x a c nz T : Nat} {s : Nat → Int32} (h : svP M M1 (x + 195) (x + 50) a c) (hr : Rw M (x + 50) s nz T) : Rw M1 (x + 197 + 145 * a) s nz T := by
  obtain ⟨M0, -, q, rfl⟩ := h
  exact ((hr.q q).eq (lo := x + 197 + 145 * a) (hi := x + 197 + 145 * a + 145) (eqR.sI (by omega)) (by omega) (by omega)).eq (lo := x + 197 + 145 * a) (hi := x + 197 + 145 * a + 145) (eqR.sI (by omega)) (by omega) (by omega)
theorem svP.hh {M M1 : EM} {x a c : Nat} (h : svP M M1 (x + 195) (x + 50) a c) : HH M1 x ((a + 1) % 12) (min 12 (c + 1)) := by
  obtain ⟨M0, -, -, rfl⟩ := h
  refine ⟨?_, Nat.mod_lt _ (by omega), ?_, by omega⟩
  · rw [mI_sI, if_pos rfl, if_neg (by omega), mI_sI, if_pos rfl, if_pos rfl]
  · rw [mI_sI, if_pos rfl, if_pos rfl]
theorem JC.act {M M' : EM} {x nz a c nb T T' : Nat} {F F' : FM} {B : Nat → Nat} {s' : Nat → Int32} (h : JC M x F nz a c nb T B) (hy : AY M M' x a c nz s') (hr : rAc F F' c) (h1 : F' 1 = s')
    (hi : sIv s' nz) (hz : sZo s' nz) (hk : ∃ k, s' 0 = nI k ∧ k ≤ T') (hT : T ≤ T') : JC M' x F' nz ((a + 1) % 12) (min 12 (c + 1)) nb T' B := by
  obtain ⟨M1, hs, f, hx⟩ := hy
  obtain ⟨r6, r2, r2', rr, r0⟩ := hr
  obtain ⟨⟨g1, g1'⟩, ⟨g2, g2'⟩, g3, g4, ⟨g5, g5'⟩, ⟨g6, g6'⟩, g7⟩ := h
  have ha : a < 12 := g2.2.1
  have hc : c ≤ 12 := g2.2.2.2
  have e3 : F' 3 = F 3 := rr 3 (by omega)
  have e4 : F' 4 = F 4 := rr 4 (by omega)
  have e6 : F' 6 = F 6 := rr 6 (by omega)
  have lo : eqR M M' x (x + 50) := (hs.eq (by omega) (by omega)).tr (f.eq (by omega))
  have hi9 : eqR M M' (x + 1937) (x + 2229) := (hs.eq (by omega) (by omega)).tr (f.eq (by omega))
  have p3 : ∀ i, kS F' i = kS F i := fun i => by unfold kS; rw [e3]
  have g5b : BF F' B nb := by unfold BF; rw [r0 10 (by omega), e6]; exact g5'
  refine ⟨⟨⟨by rw [h1]; exact hx, by rw [h1]; exact hi, by rw [h1]; exact hz, by rw [h1]; exact hk⟩, (r0 1 (by omega)).trans g1'⟩, ⟨hs.hh.eq (lo := x + 195) (hi := x + 196) (f.eq (by omega)) (by omega) (by omega), ?_⟩, fun i hi' => ?_, fun t ht => ⟨?_, ?_⟩, ⟨g5.eq lo (by omega) (by omega), g5b⟩, ⟨?_, ?_⟩, fun z hz' => ?_⟩
  · rw [r6]
    exact congrArg nI (by split <;> omega)
  · have mv : ∀ ix, ix < 12 → ¬ ix = a → ∀ s, Rw M (x + 197 + 145 * ix) s nz T → Rw M' (x + 197 + 145 * ix) s nz T' := fun ix i1 i2 s hw =>
      ((hw.eq (lo := x + 197 + 145 * ix) (hi := x + 197 + 145 * ix + 145) (hs.eq (by omega) (by omega)) (by omega) (by omega)).eq (lo := x + 197 + 145 * ix) (hi := x + 197 + 145 * ix + 145) (f.eq (by omega)) (by omega) (by omega)).T hT
    have nw : Rw M' (x + 197 + 145 * a) (F 1) nz T' := ((hs.new g1).eq (lo := x + 197 + 145 * a) (hi := x + 197 + 145 * a + 145) (f.eq (by omega)) (by omega) (by omega)).T hT
    by_cases hc12 : c = 12
    · simp only [if_pos hc12] at r2 r2' 
      by_cases hl : i < 11
      · have e9 : hIx ((a + 1) % 12) (min 12 (c + 1)) i = hIx a c (i + 1) := by unfold hIx; omega
        rw [e9]
        refine (mv _ (hIx_lt _ _ _) (by unfold hIx; omega) _ (g3 (i + 1) (by omega))).ag (fun j hj => r2 i j hl hj)
      · have e9 : hIx ((a + 1) % 12) (min 12 (c + 1)) i = a := by unfold hIx; omega
        rw [e9]
        have e8 : i = 11 := by omega
        rw [e8]
        exact nw.ag (fun j hj => r2' j hj)
    · simp only [if_neg hc12] at r2 r2' 
      by_cases hl : i < c
      · have e9 : hIx ((a + 1) % 12) (min 12 (c + 1)) i = hIx a c i := by unfold hIx; omega
        rw [e9]
        refine (mv _ (hIx_lt _ _ _) (by unfold hIx; omega) _ (g3 i hl)).ag (fun j hj => r2 i j hl hj)
      · have e9 : hIx ((a + 1) % 12) (min 12 (c + 1)) i = a := by unfold hIx; omega
        rw [e9]
        have e8 : i = c := by omega
        rw [e8]
        exact nw.ag (fun j hj => r2' j hj)
  · rw [e4]
    exact ((hi9 (x + 2228) (by omega) (by omega) t).1).trans (g4 t ht).1
  · rw [e4]
    rcases (g4 t ht).2 with h8 | ⟨h8, h9⟩
    · exact Or.inl h8
    · exact Or.inr ⟨h8, by rw [p3]; exact (h9.eq hi9 (by omega) (by omega)).T hT⟩
  · rw [r0 16 (by omega)]; exact ((lo (x + 1) (by omega) (by omega) 2).1).trans g6
  · rw [r0 17 (by omega)]; exact ((lo (x + 1) (by omega) (by omega) 3).1).trans g6'
  · exact ((lo (x + 4 + z) (by omega) (by omega) 3).1).trans (g7 z hz')
/-- a row is taken back: from the past or from a slot -/
theorem JC.back {M M' : EM} {x nz a a' c c' nb T : Nat} {F F' : FM} {B : Nat → Nat} (h : JC M x F nz a c nb T B) (hw : Rw M' (x + 50) (F' 1) nz T) (hlo : eqR M M' x (x + 50)) (hhi : eqR M M' (x + 196) (x + 2229))
    (hH : HH M' x a' c') (hc6 : F' 0 6 = nI c') (hcc : c' ≤ c) (hix : ∀ i, i < c' → hIx a' c' i = hIx a c i) (hF : ∀ i, ¬ i = 0 → ¬ i = 1 → F' i = F i) (hF0 : ∀ j, ¬ j = 0 → ¬ j = 6 → F' 0 j = F 0 j) : JC M' x F' nz a' c' nb T B := by
  obtain ⟨⟨g1, g1'⟩, ⟨g2, g2'⟩, g3, g4, ⟨g5, g5'⟩, ⟨g6, g6'⟩, g7⟩ := h
  have e2 : F' 2 = F 2 := hF 2 (by omega) (by omega)
  have e3 : F' 3 = F 3 := hF 3 (by omega) (by omega)
  have e4 : F' 4 = F 4 := hF 4 (by omega) (by omega)
  have e6 : F' 6 = F 6 := hF 6 (by omega) (by omega)
  have p2 : ∀ i, pS F' i = pS F i := fun i => by unfold pS; rw [e2]
  have p3 : ∀ i, kS F' i = kS F i := fun i => by unfold kS; rw [e3]
  have g5b : BF F' B nb := by unfold BF; rw [hF0 10 (by omega) (by omega), e6]; exact g5'
  refine ⟨⟨hw, (hF0 1 (by omega) (by omega)).trans g1'⟩, ⟨hH, hc6⟩, fun i hi => ?_, fun t ht => ⟨?_, ?_⟩, ⟨g5.eq hlo (by omega) (by omega), g5b⟩, ⟨?_, ?_⟩, fun z hz' => ?_⟩
  · rw [hix i hi, p2]
    exact (g3 i (by omega)).eq hhi (by omega) (by have := hIx_lt a c i; omega)
  · rw [e4]; exact ((hhi (x + 2228) (by omega) (by omega) t).1).trans (g4 t ht).1
  · rw [e4]
    rcases (g4 t ht).2 with h8 | ⟨h8, h9⟩
    · exact Or.inl h8
    · exact Or.inr ⟨h8, by rw [p3]; exact h9.eq hhi (by omega) (by omega)⟩
  · rw [hF0 16 (by omega) (by omega)]; exact ((hlo (x + 1) (by omega) (by omega) 2).1).trans g6
  · rw [hF0 17 (by omega) (by omega)]; exact ((hlo (x + 1) (by omega) (by omega) 3).1).trans g6'
  · exact ((hlo (x + 4 + z) (by omega) (by omega) 3).1).trans (g7 z hz')
theorem JC.undo {M M' : EM} {x nz a v nb T : Nat} {F F' : FM} {B : Nat → Nat} (h : JC M x F nz a (v + 1) nb T B) (hb : bbP M M' (x + 195) (x + 50) a (v + 1)) (hr : rTk F F' 2 (3324 * v)) (h6 : F' 0 6 = nI v) : JC M' x F' nz ((a + 11) % 12) v nb T B := by
  obtain ⟨M1, rfl, f, q⟩ := hb
  obtain ⟨r1, r2, r3⟩ := hr
  have ha : a < 12 := h.2.1.1.2.1
  have hc : v + 1 ≤ 12 := h.2.1.1.2.2.2
  have e9 : (a + 11) % 12 = hIx a (v + 1) v := by unfold hIx; omega
  have hrow : Rw M (x + 197 + 145 * hIx a (v + 1) v) (pS F v) nz T := h.2.2.1 v (by omega)
  have hix := hIx_lt a (v + 1) v
  have q' : qX M' (x + 50) (sI (sI M (x + 195) 1 (nI ((a + 11) % 12))) (x + 195) 0 (nI (v + 1 - 1))) (x + 197 + 145 * hIx a (v + 1) v) := by rw [← e9]; exact q
  have hw : Rw M' (x + 50) (pS F v) nz T := Rw.q ((hrow.eq (lo := x + 197) (hi := x + 1937) (eqR.sI (by omega)) (by omega) (by omega)).eq (lo := x + 197) (hi := x + 1937) (eqR.sI (by omega)) (by omega) (by omega)) q'
  refine h.back (hw.ag (fun j hj => r1 j hj)) (((eqR.sI (by omega)).tr (eqR.sI (by omega))).tr (f.eq (by omega))) (((eqR.sI (by omega)).tr (eqR.sI (by omega))).tr (f.eq (by omega))) ⟨?_, Nat.mod_lt _ (by omega), ?_, by omega⟩ h6 (by omega) (fun i hi => by unfold hIx; omega) r2 r3
  · rw [f.i (by omega), mI_sI, if_pos rfl, if_neg (by omega), mI_sI, if_pos rfl, if_pos rfl]
  · rw [f.i (by omega), mI_sI, if_pos rfl, if_pos rfl, Nat.add_sub_cancel]
theorem JC.rest {M M' : EM} {x nz a c nb T t : Nat} {F F' : FM} {B : Nat → Nat} (h : JC M x F nz a c nb T B) (ht : t < 2) (hk : ¬ F 4 t = 0) (hb : rsP M M' x t) (hr : rTk F F' 3 (3324 * t)) (h6 : F' 0 6 = 0) : JC M' x F' nz a 0 nb T B := by
  obtain ⟨M1, f, q, rfl⟩ := hb
  obtain ⟨r1, r2, r3⟩ := hr
  have ha : a < 12 := h.2.1.1.2.1
  have hrow : Rw M (x + 1938 + 145 * t) (kS F t) nz T := by
    rcases (h.2.2.2.1 t ht).2 with h8 | h8
    · exact absurd h8 hk
    · exact h8.2
  have hw : Rw (sI M1 (x + 195) 0 0) (x + 50) (kS F t) nz T := (hrow.q q).eq (lo := x + 50) (hi := x + 195) (eqR.sI (by omega)) (by omega) (by omega)
  refine h.back (hw.ag (fun j hj => r1 j hj)) ((f.eq (by omega)).tr (eqR.sI (by omega))) ((f.eq (by omega)).tr (eqR.sI (by omega))) ⟨?_, ha, ?_, by omega⟩ (h6.trans rfl) (by omega) (fun i hi => absurd hi (by omega)) r2 r3
  · rw [mI_sI, if_pos rfl, if_neg (by omega), f.i (by omega)]; exact h.2.1.1.1
  · rw [mI_sI, if_pos rfl, if_pos rfl]; rfl
theorem JC.keep {M M' : EM} {x nz a c nb T t : Nat} {F F' : FM} {B : Nat → Nat} (h : JC M x F nz a c nb T B) (ht : t < 2) (hb : kpP M M' x t)
    (hr : (∀ j, j < 3324 → F' 3 (3324 * t + j) = F 1 j) ∧ (∀ j, j < 3324 * t ∨ 3324 * t + 3324 ≤ j → F' 3 j = F 3 j) ∧ F' 4 = wS (F 4) t 1 ∧ (∀ i, ¬ i = 0 → ¬ i = 3 → ¬ i = 4 → F' i = F i) ∧ ∀ j, ¬ j = 0 → F' 0 j = F 0 j) : JC M' x F' nz a c nb T B := by
  obtain ⟨M1, f, q, rfl⟩ := hb
  obtain ⟨r1, r2, r4, rF, r0⟩ := hr
  obtain ⟨⟨g1, g1'⟩, ⟨g2, g2'⟩, g3, g4, ⟨g5, g5'⟩, ⟨g6, g6'⟩, g7⟩ := h
  have e1 : F' 1 = F 1 := rF 1 (by omega) (by omega) (by omega)
  have e2 : F' 2 = F 2 := rF 2 (by omega) (by omega) (by omega)
  have e6 : F' 6 = F 6 := rF 6 (by omega) (by omega) (by omega)
  have p2 : ∀ i, pS F' i = pS F i := fun i => by unfold pS; rw [e2]
  have g5b : BF F' B nb := by unfold BF; rw [r0 10 (by omega), e6]; exact g5'
  have lo : eqR M (sI M1 (x + 2228) t 1) x (x + 1938) := (f.eq (by omega)).tr (eqR.sI (by omega))
  refine ⟨⟨by rw [e1]; exact g1.eq lo (by omega) (by omega), (r0 1 (by omega)).trans g1'⟩, ⟨g2.eq lo (by omega) (by omega), (r0 6 (by omega)).trans g2'⟩, fun i hi => ?_, fun t' ht' => ?_, ⟨g5.eq lo (by omega) (by omega), g5b⟩, ⟨?_, ?_⟩, fun z hz' => ?_⟩
  · rw [p2]
    exact (g3 i hi).eq lo (by omega) (by have := hIx_lt a c i; omega)
  · by_cases e9 : t' = t
    · subst e9
      have hw : Rw (sI M1 (x + 2228) t' 1) (x + 1938 + 145 * t') (F 1) nz T := (g1.q q).eq (lo := x + 1938) (hi := x + 2228) (eqR.sI (by omega)) (by omega) (by omega)
      refine ⟨?_, Or.inr ⟨?_, hw.ag (fun j hj => r1 j hj)⟩⟩
      · rw [r4, mI_sI, if_pos rfl, if_pos rfl]; unfold wS; rw [if_pos rfl]
      · rw [r4]; unfold wS; rw [if_pos rfl]
    · have e8 : F' 4 t' = F 4 t' := by rw [r4]; unfold wS; rw [if_neg e9]
      rw [e8]
      refine ⟨?_, ?_⟩
      · rw [mI_sI, if_pos rfl, if_neg e9, f.i (by omega)]
        exact (g4 t' ht').1
      · rcases (g4 t' ht').2 with h8 | ⟨h8, h9⟩
        · exact Or.inl h8
        · refine Or.inr ⟨h8, Rw.ag ((h9.eq (lo := x + 1938 + 145 * t') (hi := x + 1938 + 145 * t' + 145) (f.eq (by omega)) (by omega) (by omega)).eq (lo := x + 1938) (hi := x + 2228) (eqR.sI (by omega)) (by omega) (by omega)) (fun j hj => r2 _ (by omega))⟩
  · rw [r0 16 (by omega)]; exact ((lo (x + 1) (by omega) (by omega) 2).1).trans g6
  · rw [r0 17 (by omega)]; exact ((lo (x + 1) (by omega) (by omega) 3).1).trans g6'
  · exact ((lo (x + 4 + z) (by omega) (by omega) 3).1).trans (g7 z hz')
end
