/-! THE PAIR, 4 (by program): the acts. -/
section
variable {l : Launch} {g : EG}
theorem i_rng {v : Int32} {n : Nat} (hn : n < 2 ^ 31) (h : 0 ≤ v ∧ v ≤ nI n) : ∃ k, k ≤ n ∧ v = nI k := by
  have h0 : (0 : Int32).toInt = 0 := by decide
  obtain ⟨j, hj, rfl⟩ := nI_of (x := v) (by rw [Int32.lt_iff_toInt_lt, h0]; have := Int32.le_iff_toInt_le.mp h.1; rw [h0] at this; omega)
  exact ⟨j, (nI_leI hj hn).mp h.2, rfl⟩
theorem i_q2 {v : Int32} (h : 0 ≤ v ∧ v ≤ 1) : ∃ k, k < 2 ∧ v = nI k := by
  obtain ⟨k, hk, e⟩ := i_rng (n := 1) (by decide) h
  exact ⟨k, by omega, e⟩
theorem i_r1 {v : Int32} {n : Nat} (hn : n < 2 ^ 31) (h : 1 ≤ v ∧ v ≤ nI n) : ∃ k, 1 ≤ k ∧ k ≤ n ∧ v = nI k := by
  have h1 : (1 : Int32).toInt = 1 := by decide
  have h0 : (0 : Int32).toInt = 0 := by decide
  obtain ⟨k, hk, rfl⟩ := i_rng hn ⟨by rw [Int32.le_iff_toInt_le, h0]; have := Int32.le_iff_toInt_le.mp h.1; rw [h1] at this; omega, h.2⟩
  exact ⟨k, (nI_leI (a := 1) (by decide) (by omega)).mp h.1, hk, rfl⟩
theorem i_mx {v : Int32} {n : Nat} (hn : n < 2 ^ 31) (h : 0 ≤ v ∧ v ≤ nI n - 1) : ∃ k, k < n ∧ v = nI k := by
  rcases Nat.eq_zero_or_pos n with rfl | h1
  · have h0 : (0 : Int32).toInt = 0 := by decide
    have h2 : (nI 0 - 1 : Int32).toInt = -1 := by decide
    have a := Int32.le_iff_toInt_le.mp h.1
    have b := Int32.le_iff_toInt_le.mp h.2
    rw [h0] at a
    rw [h2] at b
    omega
  · have e1 : nI n - 1 = nI (n - 1) := pk_sub (b := 1) h1
    rw [e1] at h
    obtain ⟨k, hk, e⟩ := i_rng (by omega) h
    exact ⟨k, by omega, e⟩
theorem rTh.i {F : FM} {p : Nat} {v : Int32} (h : rTh F p v) : ∃ e, e < 8 ∧ v = nI e ∧ F 1 (eAt p e) = 1 := by
  obtain ⟨e, he, rfl⟩ := i_rng (n := 7) (by decide) ⟨h.1, h.2.1⟩
  refine ⟨e, by omega, rfl, h.e (by omega)⟩
theorem JC.n0 {M : EM} {x nz a c nb T : Nat} {F : FM} {B : Nat → Nat} (h : JC M x F nz a c nb T B) : ∃ k, F 1 0 = nI k ∧ k ≤ T := h.1.1.2.2.2
theorem JC.sz {M : EM} {x nz a c nb T : Nat} {F : FM} {B : Nat → Nat} (h : JC M x F nz a c nb T B) {s' : Nat → Int32} {q e : Nat} (hq : q < 2) (he : e < 8) (ho : ∀ j, (j < eAt q e ∨ eAt q e + 136 ≤ j) → s' j = F 1 j) : sZo s' nz ∧ ∃ k, s' 0 = nI k ∧ k ≤ T + 9 := by
  obtain ⟨k, k1, k2⟩ := h.n0
  exact ⟨h.1.1.2.2.1.act h.1.1.nz.2 (by omega) he (fun j _ hj => ho j hj), k, (ho 0 (Or.inl (by show 0 < 24 + 1100 * q + 12 + 136 * e; omega))).trans k1, by omega⟩
theorem sRm_oo {s : Nat → Int32} {a j : Nat} (h : j < a ∨ a + 136 ≤ j) : sRm s a j = s j := by
  unfold sRm wS; iterate 2 rw [if_neg (by omega)]
theorem sCa_oo {s : Nat → Int32} {a d j : Nat} (h : j < a ∨ a + 136 ≤ j) : sCa s a d j = s j := by
  unfold sCa wS; iterate 2 rw [if_neg (by omega)]
theorem sRe_oo {s : Nat → Int32} {a k j : Nat} {v : Int32} (hk : k < 136) (h : j < a ∨ a + 136 ≤ j) : sRe s a k v j = s j := by
  unfold sRe wS; iterate 2 rw [if_neg (by omega)]
theorem sMv_oo {s : Nat → Int32} {a d j : Nat} {dy mi : Int32} (hd : d < 30) (h : j < a ∨ a + 136 ≤ j) : sMv s a d dy mi j = s j := by
  unfold sMv wS; iterate 4 rw [if_neg (by omega)]
theorem sRp_oo {s : Nat → Int32} {a j : Nat} {kd n w u : Int32} (h : j < a ∨ a + 136 ≤ j) : sRp s a kd n w u j = s j := by
  unfold sRp rClr; rw [if_neg (by omega)]; unfold wS; iterate 5 rw [if_neg (by omega)]
theorem sCr_oo {s : Nat → Int32} {a j : Nat} {d mi ln z : Int32} (h : j < a ∨ a + 136 ≤ j) : sCr s a d mi ln z j = s j := by
  unfold sCr rClr; rw [if_neg (by omega)]; unfold wS; iterate 12 rw [if_neg (by omega)]
theorem rWN_c (F : FM) (S x d mi ln z : Int32) : (∃ k, 1 ≤ k ∧ k ≤ 3 ∧ rWN F S x d mi ln z = nI k) ∨ (rWN F S x d mi ln z = 0 ∧ ((0 ≤ S ∧ S ≤ 1) ∧ (0 ≤ x ∧ x ≤ 7) ∧ (0 ≤ d ∧ d ≤ 1094) ∧ (0 ≤ mi ∧ mi ≤ 1439) ∧ (1 ≤ ln ∧ ln ≤ 1440)) ∧ (0 ≤ z ∧ z ≤ F 0 1 - 1) ∧ ¬ rTh F S.toNatClampNeg x) := by
  unfold rWN
  split
  · split
    · split
      · exact Or.inl ⟨3, by omega, by omega, rfl⟩
      · rename_i h1 h2 h3; exact Or.inr ⟨rfl, h1, h2, h3⟩
    · exact Or.inl ⟨2, by omega, by omega, rfl⟩
  · exact Or.inl ⟨1, by omega, by omega, rfl⟩
theorem nI_p {k : Nat} (h : 1 ≤ k) (h2 : k ≤ 3) : ¬ nI k = 0 ∧ 0 < nI k := by
  obtain rfl | rfl | rfl : k = 1 ∨ k = 2 ∨ k = 3 := by omega
  all_goals exact ⟨by decide, by decide⟩
theorem px_remove (hl0 : l.stackTraces = false) {M : EM} {x m T : Nat} {F : FM} (hj : JD M x F T) (S v : Int32) : Pair l g sg_X10_remove sg_X11_remove exA 2 [.inl S, .inl v] M x m T F := by
  obtain ⟨nz, a, c, nb, B, h⟩ := id hj
  have eu : F 0 6 = nI c := h.2.1.2
  have hu : c ≤ 12 := h.2.1.1.2.2.2
  have hh : HH M x a c := h.2.1.1
  by_cases hS : 0 ≤ S ∧ S ≤ 1
  · obtain ⟨q, hq, rfl⟩ := i_q2 hS
    by_cases hr : rTh F q v
    · obtain ⟨e, he, rfl, h1⟩ := hr.i
      have hz := h.sz hq he (fun j hj => sRm_oo (s := F 1) hj)
      exact Pair.a h (sRm_iv h.1.1.2.1 hq he) hz.1 hz.2 (ca_remove hl0 M h.qh hh hq he h1) (fun M1 => cr_remove0 hl0 M1 F hq he (rTh.mk he h1) eu hu)
    · exact Pair.n hj (k := 2) (by decide) rfl (by decide) (ca_remove2 hl0 M h.qh hq v hr) (fun M1 => cr_remove2 hl0 M1 F v hq hr)
  · exact Pair.n hj (k := 1) (by decide) rfl (by decide) (ca_remove1 hl0 M S v hS) (fun M1 => cr_remove1 hl0 M1 F S v hS)
theorem px_cancel (hl0 : l.stackTraces = false) {M : EM} {x m T : Nat} {F : FM} (hj : JD M x F T) (S v D : Int32) : Pair l g sg_X10_cancel sg_X11_cancel exA 3 [.inl S, .inl v, .inl D] M x m T F := by
  obtain ⟨nz, a, c, nb, B, h⟩ := id hj
  have eu : F 0 6 = nI c := h.2.1.2
  have hu : c ≤ 12 := h.2.1.1.2.2.2
  have hh : HH M x a c := h.2.1.1
  by_cases hS : 0 ≤ S ∧ S ≤ 1
  · obtain ⟨q, hq, rfl⟩ := i_q2 hS
    by_cases hr : rTh F q v
    · obtain ⟨e, he, rfl, h1⟩ := hr.i
      by_cases hD : 0 ≤ D ∧ D ≤ nI (rL F (eAt q e)).length - 1
      · have hln : (rL F (eAt q e)).length ≤ 30 := rDt_le _
        obtain ⟨d, hd, rfl⟩ := i_mx (by omega) hD
        have hz := h.sz hq he (fun j hj => sCa_oo (s := F 1) (d := d) hj)
        exact Pair.a h (sCa_iv h.1.1.2.1 hq he h1 hd).1 hz.1 hz.2 (ca_cancel hl0 M h.qh hh hq he h1 hd) (fun M1 => cr_cancel0 hl0 M1 F hq he (rTh.mk he h1) (h.wf q e (by omega) he h1).1 hd eu hu)
      · exact Pair.n hj (k := 3) (by decide) rfl (by decide) (ca_cancel3 hl0 M h.qh hq he h1 D hD) (fun M1 => cr_cancel3 hl0 M1 F hq he (rTh.mk he h1) (h.wf q e (by omega) he h1).1 hD)
    · exact Pair.n hj (k := 2) (by decide) rfl (by decide) (ca_cancel2 hl0 M h.qh hq v hr D) (fun M1 => cr_cancel2 hl0 M1 F hq hr)
  · exact Pair.n hj (k := 1) (by decide) rfl (by decide) (ca_cancel1 hl0 M S v D hS) (fun M1 => cr_cancel1 hl0 M1 F hS)
theorem px_reply (hl0 : l.stackTraces = false) {M : EM} {x m T : Nat} {F : FM} (hj : JD M x F T) (S v D w : Int32) : Pair l g sg_X10_reply sg_X11_reply exA 3 [.inl S, .inl v, .inl D, .inl w] M x m T F := by
  obtain ⟨nz, a, c, nb, B, h⟩ := id hj
  have eu : F 0 6 = nI c := h.2.1.2
  have hu : c ≤ 12 := h.2.1.1.2.2.2
  have hh : HH M x a c := h.2.1.1
  by_cases hw : 0 ≤ w ∧ w ≤ 3
  · obtain ⟨u, hu4, rfl⟩ := i_rng (n := 3) (by decide) hw
    by_cases hS : 0 ≤ S ∧ S ≤ 1
    · obtain ⟨q, hq, rfl⟩ := i_q2 hS
      by_cases hr : rTh F q v
      · obtain ⟨e, he, rfl, h1⟩ := hr.i
        by_cases hn : D = -1
        · subst hn
          have hz := h.sz hq he (fun j hj => sRe_oo (s := F 1) (k := 14 + q) (v := nI u) (by omega) hj)
          exact Pair.a h (sRe_iv h.1.1.2.1 hq he h1 (by omega) (Or.inl rfl)) hz.1 hz.2 (ca_replyN hl0 M h.qh hh hq he h1 (by omega)) (fun M1 => cr_reply0N hl0 M1 F hw hq he (rTh.mk he h1) (h.wf q e (by omega) he h1).1 eu hu)
        · by_cases hD : 0 ≤ D ∧ D ≤ nI (rL F (eAt q e)).length - 1
          · have hln : (rL F (eAt q e)).length ≤ 30 := rDt_le _
            obtain ⟨d, hd, rfl⟩ := i_mx (by omega) hD
            have hz := h.sz hq he (fun j hj => sRe_oo (s := F 1) (k := 76 + 30 * q + d) (v := nI u) (by omega) hj)
            exact Pair.a h (sRe_iv h.1.1.2.1 hq he h1 (by omega) (Or.inr (by omega))) hz.1 hz.2 (ca_replyD hl0 M h.qh hh hq he h1 hd (by omega)) (fun M1 => cr_reply0D hl0 M1 F hw hq he (rTh.mk he h1) (h.wf q e (by omega) he h1).1 hd eu hu)
          · exact Pair.n hj (k := 3) (by decide) rfl (by decide) (ca_reply3 hl0 M h.qh hq he h1 D hD (nI u) hw hn) (fun M1 => cr_reply3 hl0 M1 F hw hq he (rTh.mk he h1) (h.wf q e (by omega) he h1).1 hn hD)
      · exact Pair.n hj (k := 2) (by decide) rfl (by decide) (ca_reply2 hl0 M h.qh hq v hr D (nI u) hw) (fun M1 => cr_reply2 hl0 M1 F hw hq hr)
    · exact Pair.n hj (k := 1) (by decide) rfl (by decide) (ca_reply1 hl0 M S v D (nI u) (Or.inr hS)) (fun M1 => cr_reply1 hl0 M1 F (Or.inr hS))
  · exact Pair.n hj (k := 1) (by decide) rfl (by decide) (ca_reply1 hl0 M S v D w (Or.inl hw)) (fun M1 => cr_reply1 hl0 M1 F (Or.inl hw))
theorem px_move (hl0 : l.stackTraces = false) {M : EM} {x m T : Nat} {F : FM} (hj : JD M x F T) (S v D dy mi : Int32) : Pair l g sg_X10_move sg_X11_move exA 3 [.inl S, .inl v, .inl D, .inl dy, .inl mi] M x m T F := by
  obtain ⟨nz, a, c, nb, B, h⟩ := id hj
  have eu : F 0 6 = nI c := h.2.1.2
  have hu : c ≤ 12 := h.2.1.1.2.2.2
  have hh : HH M x a c := h.2.1.1
  by_cases hG : rGM dy mi
  · by_cases hS : 0 ≤ S ∧ S ≤ 1
    · obtain ⟨q, hq, rfl⟩ := i_q2 hS
      by_cases hr : rTh F q v
      · obtain ⟨e, he, rfl, h1⟩ := hr.i
        by_cases hD : 0 ≤ D ∧ D ≤ nI (rL F (eAt q e)).length - 1
        · have hln : (rL F (eAt q e)).length ≤ 30 := rDt_le _
          obtain ⟨d, hd, rfl⟩ := i_mx (by omega) hD
          have hz := h.sz hq he (fun j hj => sMv_oo (s := F 1) (d := d) (dy := dy) (mi := mi) (by omega) hj)
          obtain ⟨hO, z, z1, z2⟩ := h.wf q e (by omega) he h1
          have ez : (F 1 (eAt q e + 4)).toNatClampNeg = z := by rw [z2, nI_clamp (by omega)]
          refine Pair.a h (sMv_iv h.1.1.2.1 hq he h1 (by omega) hG) hz.1 hz.2 (v := rMo (dF (rwF F 1 (sMv (F 1) (eAt q e) d dy mi)) (rL F (eAt q e))) q z (eAt q e) d) ?_ (fun M1 => cr_move0 hl0 M1 F hG hq he (rTh.mk he h1) hO hd z1 z2 eu hu)
          rcases hG with rfl | ⟨g1, g2⟩
          · have := ca_moveN hl0 (l := l) (g := g) M h.qh hh hq he h1 hd mi
            rw [ez] at this
            exact this
          · obtain ⟨D', hD', rfl⟩ := i_rng (n := 1094) (by decide) g1
            obtain ⟨m', hm', rfl⟩ := i_rng (n := 1439) (by decide) g2
            have := ca_moveD hl0 (l := l) (g := g) M h.qh hh hq he h1 hd (D := D') (m := m') (by omega) (by omega)
            rw [ez] at this
            exact this
        · exact Pair.n hj (k := 3) (by decide) rfl (by decide) (ca_move3 hl0 M h.qh hq he h1 D hD dy mi hG) (fun M1 => cr_move3 hl0 M1 F hG hq he (rTh.mk he h1) (h.wf q e (by omega) he h1).1 hD)
      · exact Pair.n hj (k := 2) (by decide) rfl (by decide) (ca_move2 hl0 M h.qh hq v hr D dy mi hG) (fun M1 => cr_move2 hl0 M1 F hG hq hr)
    · exact Pair.n hj (k := 1) (by decide) rfl (by decide) (ca_move1 hl0 M S v D dy mi (Or.inr hS)) (fun M1 => cr_move1 hl0 M1 F (Or.inr hS))
  · exact Pair.n hj (k := 1) (by decide) rfl (by decide) (ca_move1 hl0 M S v D dy mi (Or.inl hG)) (fun M1 => cr_move1 hl0 M1 F (Or.inl hG))
theorem px_repeat (hl0 : l.stackTraces = false) {M : EM} {x m T : Nat} {F : FM} (hj : JD M x F T) (S v kd n w t : Int32) : Pair l g sg_X10_repeat sg_X11_repeat exA 2 [.inl S, .inl v, .inl kd, .inl n, .inl w, .inl t] M x m T F := by
  obtain ⟨nz, a, c, nb, B, h⟩ := id hj
  have eu : F 0 6 = nI c := h.2.1.2
  have hu : c ≤ 12 := h.2.1.1.2.2.2
  have hh : HH M x a c := h.2.1.1
  by_cases hg : rGR S kd n w t
  · obtain ⟨g1, g2, g3, g4⟩ := id hg
    obtain ⟨q, hq, rfl⟩ := i_q2 g1
    by_cases hr : rTh F q v
    · obtain ⟨e, he, rfl, h1⟩ := hr.i
      obtain ⟨k, hk, rfl⟩ := i_rng (n := 3) (by decide) g2
      rcases Nat.eq_zero_or_pos k with rfl | hk1
      · have e0 : sRp (F 1) (eAt q e) (nI 0) n w t = sRp (F 1) (eAt q e) (nI 0) (nI 0) w (nI 0) := by
          unfold sRp
          rw [if_pos (show nI 0 = 0 from rfl), if_pos (show nI 0 = 0 from rfl), if_pos (show nI 0 = 0 from rfl), if_pos (show nI 0 = 0 from rfl)]
        have hz := h.sz hq he (fun j hj => sRp_oo (s := F 1) (kd := nI 0) (n := n) (w := w) (u := t) hj)
        have hi : sIv (sRp (F 1) (eAt q e) (nI 0) n w t) nz := by rw [e0]; exact sRp_iv h.1.1.2.1 hq he h1 ⟨by omega, Or.inl rfl⟩
        have hO : rOk (fun j => sRp (F 1) (eAt q e) (nI 0) n w t (eAt q e + j)) := by rw [e0]; exact sRp_ok h.1.1.2.1 hq he h1 ⟨by omega, Or.inl rfl⟩
        exact Pair.a h hi hz.1 hz.2 (ca_repeat0 hl0 M h.qh hh hq he h1 n w t) (fun M1 => cr_repeat0 hl0 M1 F hq he hg (rTh.mk he h1) hO eu hu)
      · rcases g3 with g3 | ⟨g3, g5⟩
        · exact absurd g3 (nI_p hk1 hk).1
        · obtain ⟨n', n1, n9, rfl⟩ := i_r1 (n := 9) (by decide) g3
          obtain ⟨t', t1, t30, rfl⟩ := i_r1 (n := 30) (by decide) g5
          have hG : rGRn k n' t' := ⟨hk, Or.inr ⟨n1, n9, t1, t30⟩⟩
          have hz := h.sz hq he (fun j hj => sRp_oo (s := F 1) (kd := nI k) (n := nI n') (w := w) (u := nI t') hj)
          refine Pair.a h (sRp_iv (w := w) h.1.1.2.1 hq he h1 hG) hz.1 hz.2 (ca_repeatK hl0 M h.qh hh hq he h1 w hk1 hk n1 n9 t1 t30 ?_) (fun M1 => cr_repeat0 hl0 M1 F hq he hg (rTh.mk he h1) (sRp_ok h.1.1.2.1 hq he h1 hG) eu hu)
          intro k2
          rcases g4 with g4 | g4
          · exact absurd (congrArg nI k2) g4
          · exact g4
    · exact Pair.n hj (k := 2) (by decide) rfl (by decide) (ca_repeat2 hl0 M h.qh hq v hr kd n w t hg) (fun M1 => cr_repeat2 hl0 M1 F hq hg hr)
  · exact Pair.n hj (k := 1) (by decide) rfl (by decide) (ca_repeat1 hl0 M S v kd n w t hg) (fun M1 => cr_repeat1 hl0 M1 F hg)
theorem px_create (hl0 : l.stackTraces = false) {M : EM} {x m T : Nat} {F : FM} (hj : JD M x F T) (S v d mi ln z : Int32) : Pair l g sg_X10_create sg_X11_create exC 3 [.inl S, .inl v, .inl d, .inl mi, .inl ln, .inl z] M x m T F := by
  obtain ⟨nz, a, c, nb, B, h⟩ := id hj
  have eu : F 0 6 = nI c := h.2.1.2
  have hu : c ≤ 12 := h.2.1.1.2.2.2
  have hh : HH M x a c := h.2.1.1
  rcases rWN_c F S v d mi ln z with ⟨k, k1, k3, hr⟩ | ⟨h0, ⟨g1, g2, g3, g4, g5⟩, gz, hth⟩
  · exact Pair.n hj (k := k) k3 hr (by rw [hr]; exact (nI_p k1 k3).1) (ca_create1 hl0 M h.qh S v d mi ln z _ rfl (by rw [hr]; exact (nI_p k1 k3).2)) (fun M1 => cr_create1 hl0 M1 F rfl (by rw [hr]; exact (nI_p k1 k3).2))
  · obtain ⟨q, hq, rfl⟩ := i_q2 g1
    obtain ⟨e, he, rfl⟩ := i_rng (n := 7) (by decide) g2
    obtain ⟨D, hD, rfl⟩ := i_rng (n := 1094) (by decide) g3
    obtain ⟨m', hm, rfl⟩ := i_rng (n := 1439) (by decide) g4
    obtain ⟨L, l1, l2, rfl⟩ := i_r1 (n := 1440) (by decide) g5
    rw [h.1.2] at gz
    obtain ⟨Z, hZ, rfl⟩ := i_mx (by have := h.1.1.nz; omega) gz
    rw [nI_clamp (by omega)] at hth
    have h1 : ¬ F 1 (eAt q e) = 1 := fun h9 => hth (rTh.mk (by omega) h9)
    have hz := h.sz hq (show e < 8 by omega) (fun j hj => sCr_oo (s := F 1) (d := nI D) (mi := nI m') (ln := nI L) (z := nI Z) hj)
    exact Pair.a h (sCr_iv h.1.1.2.1 hq (by omega) (by omega) (by omega) l1 l2 hZ) hz.1 hz.2 (ca_create hl0 M h.qh hh hq (by omega) h1 (by omega) (by omega) l1 l2 hZ) (fun M1 => cr_create0 hl0 M1 F hq (by omega) h0 eu hu)
end
