/-! THE PAIR, 5 (by program): push, pull, sync, setZone, undo, keep, restore, feed, load, busy. -/
section
variable {l : Launch} {g : EG}
theorem tq_sN {E : Int32 → String} {M M' : EM} {x : Nat} {k : Int32} {s : String} {o : EO} (h0 : ¬ k = 0) (hE : E k = s) (h : (∃ n, M' = sN M n) ∧ o = .inr s) : TQ E M x (k, 0) o M' := by
  obtain ⟨⟨n, rfl⟩, rfl⟩ := h
  exact TQ.no e_fr.rf rfl h0 hE
theorem JC.hi {M : EM} {x nz a c nb T : Nat} {F : FM} {B : Nat → Nat} (h : JC M x F nz a c nb T B) : mI M (x + 50) 0 = F 1 0 := by
  obtain ⟨c1, L, h1, -, -, -, -, h6, -⟩ := h.1.1.1.1.1
  exact h6.trans h1.symm
theorem Rw.hi {M : EM} {x nz T : Nat} {s : Nat → Int32} (h : Rw M x s nz T) : mI M x 0 = s 0 := by
  obtain ⟨c1, L, h1, -, -, -, -, h6, -⟩ := h.1.1.1
  exact h6.trans h1.symm
theorem Rw.bX {M : EM} {x nz T : Nat} {s : Nat → Int32} (h : Rw M x s nz T) : bX M x := by
  have key : ∀ p, p < 3 → bP M (pAd x p) := fun p hp e he => by
    have h1 := (h.1.1.2.2.1 p hp e he).1
    rcases ((h.2.1).2.1 p hp e he).1 with h2 | h2
    · exact Or.inl (h1.trans h2)
    · exact Or.inr (h1.trans h2)
  refine ⟨key 2 (by omega), fun s hs => ?_⟩
  have := key s (by omega)
  rw [pAd_q hs] at this
  rw [show x + 48 + 48 * s + 1 = x + 49 + 48 * s by omega]
  exact this
theorem e_fo.eqx {M M' : EM} {lo hi : Nat} (h : ∀ c, ¬ (lo ≤ c ∧ c < hi) → ∀ j, mI M' c j = mI M c j ∧ mL M' c j = mL M c j) : e_fo M M' lo hi := fun c hc j => h c (by omega) j
theorem i_720 {v : Int32} (h : -720 ≤ v ∧ v ≤ 720) : ∃ k, k ≤ 1440 ∧ v = nI k - nI 720 := by
  have a := Int32.le_iff_toInt_le.mp h.1
  have b := Int32.le_iff_toInt_le.mp h.2
  have e1 : (-720 : Int32).toInt = -720 := by decide
  have e2 : (720 : Int32).toInt = 720 := by decide
  rw [e1] at a
  rw [e2] at b
  refine ⟨(v.toInt + 720).toNat, by omega, ?_⟩
  apply Int32.toInt_inj.mp
  rw [pk_sub_toInt (by omega) (by omega)]
  omega
theorem pPl_0 (s : Nat → Int32) {q : Nat} (hq : q < 2) : pPl s q 0 = s 0 := by
  unfold pPl
  rw [wS_o (by omega), pPe_o hq 8 (Nat.le_refl _) (fun e he => Or.inl (by show 0 < 24 + 1100 * q + 12 + 136 * e; omega)), pPz_o (Or.inl (by omega))]
  unfold pPc
  rw [pCnt_lo (by omega) hq (by omega), pCnt_lo (by omega) hq (by omega), pCnt_lo (by omega) hq (by omega)]
theorem px_push (hl0 : l.stackTraces = false) {M : EM} {x m T : Nat} {F : FM} (hj : JD M x F T) (hT : T + 100 < 2 ^ 20) (S : Int32) : Pair l g sg_X10_push sg_X11_push exA 1 [.inl S] M x m T F := by
  obtain ⟨nz, a, c, nb, B, h⟩ := id hj
  have eu : F 0 6 = nI c := h.2.1.2
  have hu : c ≤ 12 := h.2.1.1.2.2.2
  have hh : HH M x a c := h.2.1.1
  by_cases hS : 0 ≤ S ∧ S ≤ 1
  · obtain ⟨q, hq, rfl⟩ := i_q2 hS
    obtain ⟨k, k1, k2⟩ := h.n0
    have hL := sIv.Lg h.1.1.2.1
    obtain ⟨d, d1, d2, d3⟩ := pPu_clk hL hq k1 (by omega) 8 (by omega)
    exact Pair.a h (pPu_iv h.1.1.2.1 hq k1 (by omega) 8 (by omega)) (pPu_zo h.1.1.2.2.1 h.1.1.nz.2 hL hq) ⟨d, d3, by omega⟩ (ca_push hl0 M h.qh hh hq k1 (by omega)) (fun M1 => cr_push0 hl0 M1 F hq hL (fun e he h1 => (h.wf 2 e (by omega) he h1).1) eu hu)
  · exact Pair.n hj (k := 1) (by decide) rfl (by decide) (ca_push1 hl0 M S hS) (fun M1 => cr_push1 hl0 M1 F hS)
theorem px_pull (hl0 : l.stackTraces = false) {M : EM} {x m T : Nat} {F : FM} (hj : JD M x F T) (hT : T + 100 < 2 ^ 20) (S : Int32) : Pair l g sg_X10_pull sg_X11_pull exA 1 [.inl S] M x m T F := by
  obtain ⟨nz, a, c, nb, B, h⟩ := id hj
  have eu : F 0 6 = nI c := h.2.1.2
  have hu : c ≤ 12 := h.2.1.1.2.2.2
  have hh : HH M x a c := h.2.1.1
  by_cases hS : 0 ≤ S ∧ S ≤ 1
  · obtain ⟨q, hq, rfl⟩ := i_q2 hS
    obtain ⟨k, k1, k2⟩ := h.n0
    have hL := sIv.Lg h.1.1.2.1
    exact Pair.a h (pPl_iv h.1.1.2.1 hq) (pPl_zo h.1.1.2.2.1 h.1.1.nz.2 hq) ⟨k, (pPl_0 (F 1) hq).trans k1, by omega⟩ (ca_pull hl0 M h.qh hh hq k1 (by omega)) (fun M1 => cr_pull0 hl0 M1 F hq h.1.1.2.1.1 eu hu)
  · exact Pair.n hj (k := 1) (by decide) rfl (by decide) (ca_pull1 hl0 M S hS) (fun M1 => cr_pull1 hl0 M1 F hS)
theorem px_sync (hl0 : l.stackTraces = false) {M : EM} {x m T : Nat} {F : FM} (hj : JD M x F T) (hT : T + 100 < 2 ^ 20) (S : Int32) : Pair l g sg_X10_sync sg_X11_sync exA 1 [.inl S] M x m T F := by
  obtain ⟨nz, a, c, nb, B, h⟩ := id hj
  have eu : F 0 6 = nI c := h.2.1.2
  have hu : c ≤ 12 := h.2.1.1.2.2.2
  have hh : HH M x a c := h.2.1.1
  by_cases hS : 0 ≤ S ∧ S ≤ 1
  · obtain ⟨q, hq, rfl⟩ := i_q2 hS
    obtain ⟨k, k1, k2⟩ := h.n0
    have hL := sIv.Lg h.1.1.2.1
    obtain ⟨d, d1, d2, d3⟩ := pPu_clk hL hq k1 (by omega) 8 (by omega)
    have hi := pPu_iv h.1.1.2.1 hq k1 (by omega) 8 (by omega)
    have hz := pPu_zo h.1.1.2.2.1 h.1.1.nz.2 hL hq
    exact Pair.a h (pPl_iv hi hq) (pPl_zo hz h.1.1.nz.2 hq) ⟨d, (pPl_0 _ hq).trans d3, by omega⟩ (ca_sync hl0 M h.qh hh hq k1 (by omega)) (fun M1 => cr_sync0 hl0 M1 F hq hL (fun e he h1 => (h.wf 2 e (by omega) he h1).1) hi.1 eu hu)
  · exact Pair.n hj (k := 1) (by decide) rfl (by decide) (ca_sync1 hl0 M S hS) (fun M1 => cr_sync1 hl0 M1 F hS)
theorem px_setZone (hl0 : l.stackTraces = false) {M : EM} {x m T : Nat} {F : FM} (hj : JD M x F T) (hT : T + 100 < 2 ^ 20) (z of f t : Int32) : Pair l g sg_X10_setZone sg_X11_setZone exZ 2 [.inl z, .inl of, .inl f, .inl t] M x m T F := by
  obtain ⟨nz, a, c, nb, B, h⟩ := id hj
  have eu : F 0 6 = nI c := h.2.1.2
  have hu : c ≤ 12 := h.2.1.1.2.2.2
  have hh : HH M x a c := h.2.1.1
  obtain ⟨k, k1, k2⟩ := h.n0
  by_cases hz : 0 ≤ z ∧ z ≤ F 0 1 - 1
  · have hz' := hz
    rw [h.1.2] at hz'
    obtain ⟨Z, hZ, rfl⟩ := i_mx (by have := h.1.1.nz; omega) hz'
    have hz3 : Z < 3 := by have := h.1.1.nz; omega
    by_cases hg : rGZ of f t
    · have hL := sIv.Lg h.1.1.2.1
      obtain ⟨L, L1, L2⟩ := hL
      obtain ⟨g1, g2⟩ := id hg
      obtain ⟨ov, o1, rfl⟩ := i_720 g1
      refine Pair.a h (sZn_iv h.1.1.2.1 hZ k1 (by omega)) (sZn_zo h.1.1.2.2.1 ⟨L, L1, L2⟩ h.1.1.nz.2 hZ ⟨ov, o1, rfl⟩) ⟨k + 1, ?_, by omega⟩ (ca_setZone hl0 M f t h.qh hh hZ o1 ?_ ?_ k1 (by omega)) (fun M1 => cr_setZone0 hl0 M1 F hz3 hz hg L1 L2 eu hu)
      · have hz0 : 0 < zAt 2 Z := by show 0 < 24 + 1100 * 2 + 4 * Z; omega
        unfold sZn wS
        iterate 4 rw [if_neg (by omega)]
        unfold rChg
        rw [if_pos rfl, k1]
        exact nI_add k 1
      · exact g2.imp id (fun h9 => h9.1)
      · exact g2.imp id (fun h9 => ⟨⟨Int32.le_trans h9.1.1 h9.2.1, h9.2.2⟩, h9.2.1⟩)
    · exact Pair.n hj (k := 2) (by decide) rfl (by decide) (ca_setZone2 hl0 M h.qh of f t hZ hg) (fun M1 => cr_setZone2 hl0 M1 F hz hg)
  · exact Pair.n hj (k := 1) (by decide) rfl (by decide) (ca_setZone1 hl0 M h.qh z of f t hz) (fun M1 => cr_setZone1 hl0 M1 F hz)
theorem px_undo (hl0 : l.stackTraces = false) {M : EM} {x m T : Nat} {F : FM} (hj : JD M x F T) : Pair l g sg_X10_undo sg_X11_undo exS 1 [] M x m T F := by
  obtain ⟨nz, a, c, nb, B, h⟩ := id hj
  have eu : F 0 6 = nI c := h.2.1.2
  have hu : c ≤ 12 := h.2.1.1.2.2.2
  have hh : HH M x a c := h.2.1.1
  cases c with
  | zero =>
    exact Pair.n hj (k := 1) (by decide) rfl (by decide) (Ct.mono (ca_undo0 hl0 M (c := 0) hh.2.2.1) (fun o M' h9 => BX.mk (tq_sN (by decide) rfl h9))) (fun M1 => cr_undo0 hl0 M1 F eu)
  | succ v =>
    have hrow := h.2.2.1 v (by omega)
    have e9 : (a + 11) % 12 = hIx a (v + 1) v := by have := hh.2.1; unfold hIx; omega
    have hb : bX M (x + 195 + 2 + 145 * ((a + 11) % 12)) := by rw [e9]; exact hrow.bX
    refine ⟨(0, nI v), fun F' => rTk F F' 2 (3324 * v) ∧ F' 0 6 = nI v, ⟨0, by omega, rfl⟩, Ct.mono (ca_undo1 hl0 M hh (by omega) hb) ?_, fun M1 => Ct.mono (cr_undo1 hl0 M1 F eu (by omega)) ?_⟩
    · rintro o M' ⟨⟨h1, h2⟩⟩
      refine BX.mk ⟨⟨?_, ?_⟩, fun F' hF' => ⟨nz, (a + 11) % 12, v, nb, B, (h.undo h1 hF'.1 hF'.2).T (by omega)⟩⟩
      · obtain ⟨M1, rfl, f, q⟩ := h1
        exact ((e_fo.sI (by omega) (by omega)).tr (e_fo.sI (by omega) (by omega))).tr (f.fo (by omega) (by omega))
      · unfold ResC
        rw [if_pos rfl]
        exact h2
    · rintro o M' ⟨F', e1, e2, e3, e4⟩
      exact BX.mk ⟨F', ⟨e1, e2⟩, ⟨_, e4, fun _ => rfl⟩, e3⟩
theorem px_keep (hl0 : l.stackTraces = false) {M : EM} {x m T : Nat} {F : FM} (hj : JD M x F T) (S : Int32) : Pair l g sg_X10_keep sg_X11_keep exA 1 [.inl S] M x m T F := by
  obtain ⟨nz, a, c, nb, B, h⟩ := id hj
  have eu : F 0 6 = nI c := h.2.1.2
  have hu : c ≤ 12 := h.2.1.1.2.2.2
  have hh : HH M x a c := h.2.1.1
  by_cases hS : 0 ≤ S ∧ S ≤ 1
  · obtain ⟨q, hq, rfl⟩ := i_q2 hS
    refine ⟨(0, F 1 0), (fun F' => (∀ j, j < 3324 → F' 3 (3324 * q + j) = F 1 j) ∧ (∀ j, j < 3324 * q ∨ 3324 * q + 3324 ≤ j → F' 3 j = F 3 j) ∧ F' 4 = wS (F 4) q 1 ∧ (∀ i, ¬ i = 0 → ¬ i = 3 → ¬ i = 4 → F' i = F i) ∧ ∀ j, ¬ j = 0 → F' 0 j = F 0 j), ⟨0, by omega, rfl⟩, Ct.mono (ca_keep1 hl0 M hq h.1.1.bX) ?_, fun M1 => Ct.mono (cr_keep1 hl0 M1 F hq) ?_⟩
    · rintro o M' ⟨⟨h1, h2⟩⟩
      refine BX.mk ⟨⟨?_, ?_⟩, fun F' hF' => ⟨nz, a, c, nb, B, (h.keep hq h1 hF').T (by omega)⟩⟩
      · obtain ⟨M1, f, q', rfl⟩ := h1
        exact (f.fo (by omega) (by omega)).tr (e_fo.sI (by omega) (by omega))
      · unfold ResC
        rw [if_pos rfl, ← h.hi]
        exact h2
    · rintro o M' ⟨F', e1, e2, e3, e4⟩
      exact BX.mk ⟨F', ⟨e1, e2⟩, ⟨_, e4, fun _ => rfl⟩, e3⟩
  · exact Pair.n hj (k := 1) (by decide) rfl (by decide) (ca_keep0 hl0 M S hS) (fun M1 => cr_keep0 hl0 M1 F S hS)
theorem px_restore (hl0 : l.stackTraces = false) {M : EM} {x m T : Nat} {F : FM} (hj : JD M x F T) (S : Int32) : Pair l g sg_X10_restore sg_X11_restore exA 2 [.inl S] M x m T F := by
  obtain ⟨nz, a, c, nb, B, h⟩ := id hj
  have eu : F 0 6 = nI c := h.2.1.2
  have hu : c ≤ 12 := h.2.1.1.2.2.2
  have hh : HH M x a c := h.2.1.1
  by_cases hS : 0 ≤ S ∧ S ≤ 1
  · obtain ⟨q, hq, rfl⟩ := i_q2 hS
    obtain ⟨g1, g2⟩ := h.2.2.2.1 q hq
    rcases g2 with g2 | ⟨g2, g3⟩
    · exact Pair.n hj (k := 2) (by decide) rfl (by decide) (ca_restore2 hl0 M hq (g1.trans g2)) (fun M1 => cr_restore2 hl0 M1 F hq g2)
    · have g4 : ¬ F 4 q = 0 := by rw [g2]; decide
      refine ⟨(0, F 3 (3324 * q + 0)), fun F' => rTk F F' 3 (3324 * q) ∧ F' 0 6 = 0, ⟨0, by omega, rfl⟩, Ct.mono (ca_restore1 hl0 M hq (g1.trans g2) g3.bX) ?_, fun M1 => Ct.mono (cr_restore1 hl0 M1 F hq g4) ?_⟩
      · rintro o M' ⟨⟨h1, h2⟩⟩
        refine BX.mk ⟨⟨?_, ?_⟩, fun F' hF' => ⟨nz, a, 0, nb, B, (h.rest hq g4 h1 hF'.1 hF'.2).T (by omega)⟩⟩
        · obtain ⟨M1, f, q', rfl⟩ := h1
          exact (f.fo (by omega) (by omega)).tr (e_fo.sI (by omega) (by omega))
        · unfold ResC
          rw [if_pos rfl]
          rw [h2, g3.hi]
          rfl
      · rintro o M' ⟨F', e1, e2, e3, e4⟩
        exact BX.mk ⟨F', ⟨e1, e2⟩, ⟨_, e4, fun _ => rfl⟩, e3⟩
  · exact Pair.n hj (k := 1) (by decide) rfl (by decide) (ca_restore0 hl0 M S hS) (fun M1 => cr_restore0 hl0 M1 F S hS)
theorem in20_0 {F : FM} {nb i j : Nat} {a b c d e : Int32} (h : ¬ (i = 6) ∧ ¬ (i = 0 ∧ j = 10)) : in20 F nb a b c d e i j = F i j := by
  have key : ∀ (F : FM) (nb k : Nat), inB F nb k i j = F i j := fun F nb k => by
    unfold inB upF
    rw [if_neg (by omega), if_neg (by omega)]
  unfold in20 in4
  simp only [key]
theorem in20_r {F : FM} {nb i : Nat} {a b c d e : Int32} (h : ¬ (i = 6) ∧ ¬ (i = 0)) : in20 F nb a b c d e i = F i := funext (fun j => in20_0 (by omega))
theorem JC.feed {M M' : EM} {x nz a c nb T : Nat} {F : FM} {B : Nat → Nat} {p q r s t : Int32} (h : JC M x F nz a c nb T B) (hb : nb + 20 ≤ 800) (hf : e_fr M M' (x + 48) (x + 50)) (hB : BT M' (x + 48) (in20C B nb p q r s t) (nb + 20)) : JC M' x (in20 (upF F 0 0 0) nb p q r s t) nz a c (nb + 20) T (in20C B nb p q r s t) := by
  obtain ⟨⟨h1, h1'⟩, ⟨h2, h2'⟩, h3, h4, ⟨h5, h5'⟩, ⟨h6, h6'⟩, h7⟩ := h
  have lo : eqR M M' x (x + 48) := hf.eq (by omega)
  have hi : eqR M M' (x + 50) (x + 2229) := hf.eq (by omega)
  have e0 : ∀ j, ¬ j = 0 → ¬ j = 10 → in20 (upF F 0 0 0) nb p q r s t 0 j = F 0 j := fun j j1 j2 => (in20_0 (by omega)).trans (upF_n (by omega))
  have er : ∀ i, ¬ i = 0 → ¬ i = 6 → in20 (upF F 0 0 0) nb p q r s t i = F i := fun i j1 j2 => (in20_r (by omega)).trans (upF_r (by omega))
  have p2 : ∀ i, pS (in20 (upF F 0 0 0) nb p q r s t) i = pS F i := fun i => by unfold pS; rw [er 2 (by omega) (by omega)]
  have p3 : ∀ i, kS (in20 (upF F 0 0 0) nb p q r s t) i = kS F i := fun i => by unfold kS; rw [er 3 (by omega) (by omega)]
  have b0 : BF (upF F 0 0 0) B nb := by unfold BF; rw [upF_n (by omega), upF_r (by omega)]; exact h5'
  refine ⟨⟨by rw [er 1 (by omega) (by omega)]; exact h1.eq hi (by omega) (by omega), (e0 1 (by omega) (by omega)).trans h1'⟩, ⟨h2.eq hi (by omega) (by omega), (e0 6 (by omega) (by omega)).trans h2'⟩, fun i hi' => by rw [p2]; exact (h3 i hi').eq hi (by omega) (by have := hIx_lt a c i; omega), fun t' ht => ?_, ⟨hB, in20_BF b0 hb⟩, ⟨?_, ?_⟩, fun z hz => ((lo (x + 4 + z) (by omega) (by omega) 3).1).trans (h7 z hz)⟩
  · rw [er 4 (by omega) (by omega), p3]
    refine ⟨((hi (x + 2228) (by omega) (by omega) t').1).trans (h4 t' ht).1, ?_⟩
    rcases (h4 t' ht).2 with h8 | ⟨h8, h9⟩
    · exact Or.inl h8
    · exact Or.inr ⟨h8, h9.eq hi (by omega) (by omega)⟩
  · rw [e0 16 (by omega) (by omega)]; exact ((lo (x + 1) (by omega) (by omega) 2).1).trans h6
  · rw [e0 17 (by omega) (by omega)]; exact ((lo (x + 1) (by omega) (by omega) 3).1).trans h6'
theorem JC.ln {M M' : EM} {x nz a c nb T cc q : Nat} {F F' : FM} {B : Nat → Nat} (h : JC M x F nz a c nb T B) (hc : CLn M M' x cc q) (hr : LNo F F' cc q) : JC M' x F' nz a c 0 T B := by
  obtain ⟨M1, n, ⟨-, d2, d3, -, d5⟩, ⟨c1, c2⟩, rfl⟩ := hc
  obtain ⟨r0, r10, ⟨r16, r17⟩, rF, r1, r6, -⟩ := hr
  obtain ⟨⟨h1, h1'⟩, ⟨h2, h2'⟩, h3, h4, ⟨h5, h5'⟩, ⟨h6, h6'⟩, h7⟩ := h
  have mm : ∀ c j, (c < x + 1 ∨ x + 49 ≤ c) → mI (sN (sI M1 (x + 48) 0 0) n) c j = mI M c j := fun c j hc => by
    rw [mI_sN, mI_sI, if_neg (by omega)]; exact d2 c j (by omega)
  have hi : eqR M (sN (sI M1 (x + 48) 0 0) n) (x + 49) (x + 2229) := fun c k1 k2 j => ⟨mm c j (by omega), by rw [mL_sN, mL_sI]; exact d3 c j (by omega)⟩
  have p2 : ∀ i, pS F' i = pS F i := fun i => by unfold pS; rw [rF 2 (by omega) (by omega) (by omega)]
  have p3 : ∀ i, kS F' i = kS F i := fun i => by unfold kS; rw [rF 3 (by omega) (by omega) (by omega)]
  refine ⟨⟨by rw [rF 1 (by omega) (by omega) (by omega)]; exact h1.eq hi (by omega) (by omega), r1.trans h1'⟩, ⟨h2.eq hi (by omega) (by omega), r6.trans h2'⟩, fun i hi' => by rw [p2]; exact (h3 i hi').eq hi (by omega) (by have := hIx_lt a c i; omega), fun t' ht => ?_, ⟨⟨⟨by omega, fun j hj => absurd hj (by omega)⟩, ?_⟩, r10, by omega, fun j hj => absurd hj (by omega)⟩, ⟨?_, ?_⟩, fun z hz => ?_⟩
  · rw [rF 4 (by omega) (by omega) (by omega), p3]
    refine ⟨((hi (x + 2228) (by omega) (by omega) t').1).trans (h4 t' ht).1, ?_⟩
    rcases (h4 t' ht).2 with h8 | ⟨h8, h9⟩
    · exact Or.inl h8
    · exact Or.inr ⟨h8, h9.eq hi (by omega) (by omega)⟩
  · rw [mI_sN, mI_sI, if_pos rfl, if_pos rfl]; rfl
  · rw [r16, mI_sN, mI_sI, if_neg (by omega)]; exact c1
  · rw [r17, mI_sN, mI_sI, if_neg (by omega)]; exact c2
  · rw [mI_sN, mI_sI, if_neg (by omega)]
    have := d5 z hz
    rw [show x + 1 + 3 + z = x + 4 + z by omega] at this
    exact this.trans (h7 z hz)
theorem JC.ly {M M' : EM} {x nz a c nb T z e : Nat} {F F' : FM} {B : Nat → Nat} {D : Nat → Int32} (h : JC M x F nz a c nb T B) (hg : gDr D z e) (hc : CLy M M' x D z e) (hr : LYes F F' D z e) : JC M' x F' (nZ z) a 0 0 T B := by
  obtain ⟨M1, M2, ⟨⟨-, d2, d3, -, d5⟩, ⟨c1, c2⟩, hD⟩, ⟨f, hb⟩, rfl⟩ := hc
  obtain ⟨r0, r10, r16, r17, rs, r40, r41, r1, r6, -, -⟩ := hr
  obtain ⟨-, ⟨h2, -⟩, -, -, -, -, h7⟩ := h
  have hv : ∀ y, y < 3 → mI M1 (x + 1 + 3 + y) 3 = 0 := fun y hy => (d5 y hy).trans (by rw [show x + 1 + 3 + y = x + 4 + y by omega]; exact h7 y hy)
  have q9 : qP (sI M1 (x + 48) 0 0) (x + 2) M1 (x + 2) := qP.loc (fun c j k1 k2 => ⟨by rw [mI_sI, if_neg (by omega)], rfl⟩)
  have hb1 : xBg M2 (x + 50) M1 (x + 1 + 1) := ⟨hb.1, hb.2.1.tr q9, fun s hs => ⟨(hb.2.2 s hs).1, (hb.2.2 s hs).2.1.tr q9, (hb.2.2 s hs).2.2⟩⟩
  have hx : Rx M2 (x + 50) (F' 1) (nZ z) := by rw [rs]; exact Rx.ld hb1 hD hg hv
  obtain ⟨i1, i2⟩ := ld_iv (s := F 1) hg
  have hw : Rw M2 (x + 50) (F' 1) (nZ z) T := ⟨hx, by rw [rs]; exact i1, by rw [rs]; exact i2, 0, by rw [rs]; unfold sCp; rw [if_pos (by omega)]; rfl, by omega⟩
  have mv : ∀ c j, c < x + 50 → ¬ c = x + 48 → mI (sI (sI (sI M2 (x + 195) 0 (nI 0)) (x + 2228) 0 0) (x + 2228) 1 0) c j = mI M1 c j := fun c j k1 k2 => by
    rw [mI_sI, if_neg (by omega), mI_sI, if_neg (by omega), mI_sI, if_neg (by omega), f.i (by omega), mI_sI, if_neg (by omega)]
  refine ⟨⟨((hw.eq (lo := x + 50) (hi := x + 195) (eqR.sI (by omega)) (by omega) (by omega)).eq (lo := x + 50) (hi := x + 195) (eqR.sI (by omega)) (by omega) (by omega)).eq (lo := x + 50) (hi := x + 195) (eqR.sI (by omega)) (by omega) (by omega), r1⟩, ⟨⟨?_, h2.2.1, ?_, by omega⟩, r6.trans rfl⟩, fun i hi => absurd hi (by omega), fun t' ht => ?_, ⟨⟨⟨by omega, fun j hj => absurd hj (by omega)⟩, ?_⟩, r10, by omega, fun j hj => absurd hj (by omega)⟩, ⟨?_, ?_⟩, fun y hy => ?_⟩
  · rw [mI_sI, if_neg (by omega), mI_sI, if_neg (by omega), mI_sI, if_pos rfl, if_neg (by omega), f.i (by omega), mI_sI, if_neg (by omega), d2 _ _ (by omega)]
    exact h2.1
  · rw [mI_sI, if_neg (by omega), mI_sI, if_neg (by omega), mI_sI, if_pos rfl, if_pos rfl]
  · obtain rfl | rfl : t' = 0 ∨ t' = 1 := by omega
    · exact ⟨by rw [r40, mI_sI, if_pos rfl, if_neg (by omega), mI_sI, if_pos rfl, if_pos rfl], Or.inl r40⟩
    · exact ⟨by rw [r41, mI_sI, if_pos rfl, if_pos rfl], Or.inl r41⟩
  · rw [mI_sI, if_neg (by omega), mI_sI, if_neg (by omega), mI_sI, if_neg (by omega), f.i (by omega), mI_sI, if_pos rfl, if_pos rfl]; rfl
  · rw [r16, mv _ _ (by omega) (by omega)]; exact c1
  · rw [r17, mv _ _ (by omega) (by omega)]; exact c2
  · rw [mv _ _ (by omega) (by omega)]
    have := hv y hy
    rw [show x + 1 + 3 + y = x + 4 + y by omega] at this
    exact this

theorem px_feed (hl0 : l.stackTraces = false) {M : EM} {x m T : Nat} {F : FM} (hj : JD M x F T) (p q r s t : Int32) : Pair l g sg_X10_feed sg_X11_feed exS 1 [.inl p, .inl q, .inl r, .inl s, .inl t] M x m T F := by
  obtain ⟨nz, a, c, nb, B, h⟩ := id hj
  have eu : F 0 6 = nI c := h.2.1.2
  have hu : c ≤ 12 := h.2.1.1.2.2.2
  have hh : HH M x a c := h.2.1.1
  have h10 : F 0 10 = nI nb := h.2.2.2.2.1.2.1
  by_cases hb : nb + 20 ≤ 800
  · refine ⟨(0, nI (nb + 20)), fun F' => F' = in20 (upF F 0 0 0) nb p q r s t, ⟨0, by omega, rfl⟩, Ct.mono (ca_feed0 hl0 M h.2.2.2.2.1.1 hb) ?_, fun M1 => Ct.mono (cr_feed0 hl0 M1 F h10 hb) ?_⟩
    · rintro o M' ⟨⟨⟨h1, h2⟩, h3⟩⟩
      refine BX.mk ⟨⟨h1.fo (by omega) (by omega), ?_⟩, fun F' hF' => ⟨nz, a, c, nb + 20, in20C B nb p q r s t, ?_⟩⟩
      · unfold ResC
        rw [if_pos rfl]; exact h3
      · rw [hF']; exact (h.feed hb h1 h2).T (by omega)
    · rintro o M' ⟨rfl, h3⟩
      exact BX.mk ⟨_, ⟨rfl, (in20_0 (by omega)).trans upF_s⟩, ⟨_, h3, fun _ => rfl⟩, rfl⟩
  · exact Pair.n hj (k := 1) (by decide) rfl (by decide) (Ct.mono (ca_feed1 hl0 M h.2.2.2.2.1.1.2 (by omega) h.2.2.2.2.1.1.1.1) (fun o M' h9 => BX.mk (tq_sN (by decide) rfl (BX.out h9)))) (fun M1 => cr_feed1 hl0 M1 F h10 (by omega) h.2.2.2.2.1.1.1.1)
theorem px_load (hl0 : l.stackTraces = false) {M : EM} {x m T : Nat} {F : FM} (hj : JD M x F T) (L : Int32) : Pair l g sg_X10_load sg_X11_load exL 2 [.inl L] M x m T F := by
  obtain ⟨nz, a, c, nb, B, h⟩ := id hj
  have eu : F 0 6 = nI c := h.2.1.2
  have hu : c ≤ 12 := h.2.1.1.2.2.2
  have hh : HH M x a c := h.2.1.1
  have h10 : F 0 10 = nI nb := h.2.2.2.2.1.2.1
  have hnb : nb ≤ 800 := h.2.2.2.2.1.1.1.1
  by_cases hL : 0 ≤ L ∧ L ≤ nI nb
  · obtain ⟨n, hn, rfl⟩ := i_rng (by omega) hL
    have hc := ca_load0 (l := l) (g := g) hl0 M (F 7) h.2.2.2.2.1.1 hn
    have hr := fun M1 : EM => cr_load0 (l := l) (g := g) hl0 M1 (m := m) F h.2.2.2.2.1.2 hn
    cases hR : rCal B n (F 7) with
    | inl u =>
      obtain ⟨cc, q⟩ := u
      rw [hR] at hc
      simp only [hR] at hr
      refine ⟨(2, 0), fun F' => LNo F F' cc q, ⟨2, by omega, rfl⟩, Ct.mono hc ?_, fun M1 => Ct.mono (hr M1) ?_⟩
      · rintro o M' ⟨⟨h1, h2⟩⟩
        refine BX.mk ⟨⟨?_, ?_⟩, fun F' hF' => ⟨nz, a, c, 0, B, (h.ln h1 hF').T (by omega)⟩⟩
        · obtain ⟨M1, k, ⟨-, d2, d3, -, -⟩, -, rfl⟩ := h1
          exact fun c hc j => ⟨by rw [mI_sN, mI_sI, if_neg (by omega)]; exact d2 c j (by omega), by rw [mL_sN, mL_sI]; exact d3 c j (by omega)⟩
        · unfold ResC
          rw [if_neg (by decide)]; exact h2
      · rintro o M' ⟨F', e1, e2, w, e3⟩
        exact BX.mk ⟨F', ⟨e1, e2.1⟩, ⟨w, e3, fun h9 => absurd h9 (by decide)⟩, e2⟩
    | inr u =>
      obtain ⟨⟨D, z, e⟩, t'⟩ := u
      rw [hR] at hc
      simp only [hR] at hr
      have hg := rCal_iv hR
      refine ⟨(0, nI e), fun F' => LYes F F' D z e, ⟨0, by omega, rfl⟩, Ct.mono hc ?_, fun M1 => Ct.mono (hr M1) ?_⟩
      · rintro o M' ⟨⟨h1, h2⟩⟩
        refine BX.mk ⟨⟨?_, ?_⟩, fun F' hF' => ⟨nZ z, a, 0, 0, B, (h.ly hg h1 hF').T (by omega)⟩⟩
        · obtain ⟨M1, M2, ⟨⟨-, d2, d3, -, -⟩, -, -⟩, ⟨f, -⟩, rfl⟩ := h1
          refine e_fo.tr (M' := M1) (fun c hc j => ⟨d2 c j (by omega), d3 c j (by omega)⟩) ?_
          exact ((((e_fo.sI (by omega) (by omega)).tr (f.fo (by omega) (by omega))).tr (e_fo.sI (by omega) (by omega))).tr (e_fo.sI (by omega) (by omega))).tr (e_fo.sI (by omega) (by omega))
        · unfold ResC
          rw [if_pos rfl]; exact h2
      · rintro o M' ⟨F', e1, e2, e3⟩
        exact BX.mk ⟨F', ⟨e1, e2.1⟩, ⟨_, e3, fun _ => rfl⟩, e2⟩
  · exact Pair.n hj (k := 1) (by decide) rfl (by decide) (Ct.mono (ca_load1 hl0 M h.2.2.2.2.1.1.2 hL) (fun o M' h9 => BX.mk (tq_sN (by decide) rfl (BX.out h9)))) (fun M1 => cr_load1 hl0 M1 F h10 hL)
/-- as Pair, of a float -/
def PairF (l : Launch) (g : EG) (σ τ : SG) (E : Int32 → String) (K : Nat) (av : List EV) (M : EM) (x m T : Nat) (F : FM) : Prop := ∃ (r : Int32 × UInt32) (Pf : FM → Prop), ((∃ k, k ≤ K ∧ r.1 = nI k) ∧ (r.1 = 0 → shOk r.2)) ∧ Ct l g σ (.inr (.inr (.inr (.inr (1, x)))) :: av) M (fun o M' => BX ((e_fo M M' x (x + 2232) ∧ (if r.1 = 0 then o = .inl (some (.inr (.inr (.inl r.2)))) else o = .inr (E r.1))) ∧ ∀ F', Pf F' → JD M' x F' (T + 9))) ∧ ∀ M1, Ct l g τ (.inr (.inr (.inr (.inr (30, m)))) :: av) (rM M1 m F) (fun o M' => BX (∃ F', (M' = rM M1 m F' ∧ F' 0 0 = r.1) ∧ (∃ w, o = .inl (some (.inr (.inr (.inl w)))) ∧ (r.1 = 0 → w = r.2)) ∧ Pf F'))
theorem px_busy (hl0 : l.stackTraces = false) {M : EM} {x m T : Nat} {F : FM} (hj : JD M x F T) (P f t : Int32) : PairF l g sg_X10_busy sg_X11_busy exA 1 [.inl P, .inl f, .inl t] M x m T F := by
  obtain ⟨nz, a, c, nb, B, h⟩ := id hj
  refine ⟨sp_busy F P f t, rKp F, ⟨?_, ?_⟩, Ct.mono (cq_busy hl0 M h.qh P f t) ?_, fun M1 => Ct.mono (cr_busyOk hl0 M1 F P f t h.wf) ?_⟩
  · unfold sp_busy
    split
    · exact ⟨0, by omega, rfl⟩
    · exact ⟨1, by omega, rfl⟩
  · unfold sp_busy
    split
    · rename_i h1
      intro _
      exact bzV_ok h1.2
    · intro h9
      exact absurd h9 (by decide)
  · rintro o M' ⟨⟨hf, ho⟩⟩
    exact BX.mk ⟨⟨hf.fo (by omega) (by omega), ho⟩, fun F' hF' => ⟨nz, a, c, nb, B, ((h.eq (hf.eq (by omega))).rk hF').T (by omega)⟩⟩
  · rintro o M' ⟨F', e1, hk, e0, w, e2, e3⟩
    exact BX.mk ⟨F', ⟨e1, e0⟩, ⟨w, e2, e3⟩, hk⟩
end
