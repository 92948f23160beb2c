/-! THE CLASS: whether a side shows what the store shows. -/
section
variable {l : Launch} {g : EG}
theorem shb_hi {M : EM} {x nz p e d : Nat} {F : FM} (h : Rx0 M x (F 1) nz) (hv : sIv (F 1) nz) (hp : p < 3) (he : e < 8) (hd : 30 ≤ d) (hd2 : d < 32) : (e_shb (mI M (vAd x p e))).toBitVec.getLsbD d = false := by
  have hr := h.2.2.1 p hp e he
  have r0 : mI M (vAd x p e) 0 = F 1 (eAt p e) := hr.1
  unfold e_shb
  rw [r0]
  rcases (hv.2.1 p hp e he).1 with c | c
  · rw [if_pos c]; simp
  · rw [if_neg (by rw [c]; decide)]
    have L := hr.2.2 c
    have l1 : mI M (vAd x p e) 10 = nI (rL F (eAt p e)).length := L.2.1.2.1
    have l3 : (rL F (eAt p e)).length ≤ 30 := L.2.1.1
    rw [l1, Int32.toBitVec_and, BitVec.getLsbD_and, msk32 _ (by omega) d (by omega)]
    rw [decide_eq_false (by omega)]; rfl
theorem same_rel {M : EM} {x nz q e : Nat} {F : FM} (h : Rx0 M x (F 1) nz) (hv : sIv (F 1) nz) (hq : q < 2) (he : e < 8) : seP M (pAd x q) (pAd x 2) e ↔ smE F q e := by
  have sa := fun d hd => sh_rel (d := d) h hv (show q < 3 by omega) he hd
  have sb := fun d hd => sh_rel (d := d) h hv (show 2 < 3 by omega) he hd
  have key : ∀ d, d < 30 → rSh F q e d = true → rSh F 2 e d = true → (sdP M (pAd x q) (pAd x 2) e d ↔ (rMm F q e d = rMm F 2 e d ∧ rAn F (eAt q e) 0 d = rAn F (eAt 2 e) 0 d ∧ rAn F (eAt q e) 1 d = rAn F (eAt 2 e) 1 d)) := by
    intro d hd h1 h2
    have a1 := (rSh_d.mp h1).1
    have b1 := (rSh_d.mp h2).1
    have ma := mo_rel h hv (show q < 3 by omega) he hd h1
    have mb := mo_rel h hv (show 2 < 3 by omega) he hd h2
    have x0 := an_rel (w := 0) h (show q < 3 by omega) he hd (by omega) a1
    have x1 := an_rel (w := 1) h (show q < 3 by omega) he hd (by omega) a1
    have y0 := an_rel (w := 0) h (show 2 < 3 by omega) he hd (by omega) b1
    have y1 := an_rel (w := 1) h (show 2 < 3 by omega) he hd (by omega) b1
    unfold vAd at x0 x1 y0 y1
    unfold sdP
    rw [ma, mb, x0, x1, y0, y1]
  have len : ∀ d, rSh F q e d = true → rSh F 2 e d = true → (mI M (pAd x q + 6 + 5 * e) 3 = mI M (pAd x 2 + 6 + 5 * e) 3 ↔ F 1 (eAt q e + 3) = F 1 (eAt 2 e + 3)) := by
    intro d h1 h2
    have a := ((h.2.2.1 q (by omega) e he).2.2 (rSh_d.mp h1).1).1 3 (by omega) (by omega)
    have b := ((h.2.2.1 2 (by omega) e he).2.2 (rSh_d.mp h2).1).1 3 (by omega) (by omega)
    unfold vAd at a b
    rw [a, b]; rfl
  have v : ∀ p, vAd x p e = pAd x p + 6 + 5 * e := fun _ => rfl
  constructor
  · intro k d hd
    have eq : rSh F q e d = rSh F 2 e d := by
      have a := sa d hd
      have b := sb d hd
      rw [v, k.1, ← v] at a
      rw [Bool.eq_iff_iff, ← a, ← b]
    refine ⟨eq, fun h1 => ?_⟩
    have h2 := eq.symm.trans h1
    have hb := (sa d hd).mpr h1
    have hn : ¬ e_shb (mI M (pAd x q + 6 + 5 * e)) = 0 := fun z => by
      rw [v, z, e_bit_lsb _ (by omega)] at hb; simp at hb
    have kk := (key d hd h1 h2).mp (k.2.2 d hd hb)
    exact ⟨kk.1, (len d h1 h2).mp (k.2.1 hn), kk.2⟩
  · intro k
    have e1 : e_shb (mI M (pAd x q + 6 + 5 * e)) = e_shb (mI M (pAd x 2 + 6 + 5 * e)) := by
      apply i32_ext
      intro j hj
      by_cases c : j < 30
      · have a := sa j c
        have b := sb j c
        rw [e_bit_lsb _ (by omega), v] at a b
        rw [Bool.eq_iff_iff, a, b, (k j c).1]
      · have a := shb_hi h hv (show q < 3 by omega) he (show 30 ≤ j by omega) hj
        have b := shb_hi h hv (show 2 < 3 by omega) he (show 30 ≤ j by omega) hj
        rw [v] at a b
        rw [a, b]
    refine ⟨e1, fun hn => ?_, fun d hd hb => ?_⟩
    · have ex : ∃ d, d < 30 ∧ rSh F q e d = true := by
        apply Classical.byContradiction
        intro z
        apply hn
        apply i32_ext
        intro j hj
        by_cases c : j < 30
        · have a := sa j c
          rw [e_bit_lsb _ (by omega), v] at a
          cases y : (e_shb (mI M (pAd x q + 6 + 5 * e))).toBitVec.getLsbD j with
          | false => simp
          | true => exact absurd ⟨j, c, a.mp y⟩ z
        · have a := shb_hi h hv (show q < 3 by omega) he (show 30 ≤ j by omega) hj
          rw [v] at a
          rw [a]; simp
      obtain ⟨d, hd, h1⟩ := ex
      have h2 := (k d hd).1.symm.trans h1
      exact (len d h1 h2).mpr ((k d hd).2 h1).2.1
    · have h1 := (sa d hd).mp hb
      have h2 := (k d hd).1.symm.trans h1
      have kk := (k d hd).2 h1
      exact (key d hd h1 h2).mpr ⟨kk.1, kk.2.2⟩
set_option maxRecDepth 20000 in
theorem cq_isSame (hl0 : l.stackTraces = false) {x nz : Nat} {F : FM} (M : EM) (h : QH M x F nz) (S : Int32) : Ct l g sg_X10_isSame [.inr (.inr (.inr (.inr (1, x)))), .inl S] M (fun o M' => BX (TQ exA M x (sp_isSame F S) o M')) := by
  refine sem_of hl0 mt_X10_isSame ok_X10_isSame rfl (fun K hc hw => ?_)
  clear hw
  by_cases hS : 0 ≤ S ∧ S ≤ 1
  · obtain ⟨q, hq, rfl⟩ := i01 hS
    have cq : (nI q).toNatClampNeg = q := nI_clamp (by omega)
    obtain ⟨epq, _⟩ := QH.sx (M := M) (x := x) (e := 0) hq
    have za := h.zP (p := q) (by omega)
    have zb := h.zP (p := 2) (by omega)
    have rel := fun e he => same_rel (e := e) h.1.1 h.2.1 hq he
    have e2 : pAd (x + 50) 2 = x + 50 + 1 := rfl
    rw [epq] at za
    rw [e2] at zb
    have loop : ∀ zn k, k + zn = 8 → (∀ e, e < k → smE F q e) → K 11 [some (.inr (.inr (.inr (.inr (1, x))))), some (.inl (nI q)), some (.inr (.inr (.inr (.inr (5, (sAd (x + 50) q + 1)))))), some (.inl (nI k))] [] M 1 6 := by
      intro zn
      induction zn with
      | zero =>
        intro k hk hj
        obtain rfl : k = 8 := by omega
        refine e_step rfl hc 60 [17] ?_
        repeat' (first | (with_reducible (intro h9; exact absurd rfl h9)) | (with_reducible (intro h9; exact absurd h9 e_10)) | (with_reducible (intro h9; first | exact absurd e_00 h9 | exact absurd h9 e_n10 | exact absurd h9 e_n20 | exact absurd h9 e_n30)) | (with_reducible intro _) | (refine And.intro ?_ ?_) | (with_reducible refine e_sw_nil ?_) | (refine e_fa (fun _ => ?_)) | fail)
        all_goals first | (with_reducible refine e_goK ?_) | (with_reducible refine e_ctK ?_) | (with_reducible refine vp_inK ?_; (try simp (disch := omega) only [mI_sI2, mI_sL, mI_sP, mI_sN, mI_sIr, mI_sLr, mL_sI, mL_sL2, mL_sP, mL_sN, mL_sIr, mL_sLr, mP_sI, mP_sL, mP_sN, mP_sIr, mP_sLr, nI_add, nI_clamp]); exact vp_in_nI (by omega) (by omega)) | rfl | exact trivial | exact Nat.zero_le _ | exact (e_fit_01 _).1 | exact (e_fit_01 _).2 | (with_reducible refine vp_in_iff.mpr ?_; decide +kernel) | (with_reducible refine e_nz _ (by decide)) | decide | skip
        all_goals first | (rename_i g1; exact absurd (by decide) g1) | skip
        refine BX.mk (TQ.yes e_fr.rf (by unfold sp_isSame; rw [if_pos hS]) ?_)
        unfold sp_isSame
        rw [if_pos hS, cq]
        exact e_p1 hj
      | succ zn ih =>
        intro k hk hj
        have hlt : ¬ (8 : Int32) ≤ nI k := by
          rw [show (8 : Int32) = nI 8 from rfl, nI_leI (by omega) (by omega)]
          omega
        have sh := c_showsSame (g := g) hl0 (pa := (sAd (x + 50) q + 1)) (pb := x + 50 + 1) (e := k) M (by omega) za zb
        have rk := rel k (by omega)
        rw [epq, e2] at rk
        by_cases cc : smE F q k
        · rw [e_p1 (rk.mpr cc)] at sh
          have kk := ih (k + 1) (by omega) (fun e he => by
            by_cases z : e = k
            · subst z; exact cc
            · exact hj e (by omega))
          refine e_step rfl hc 60 [11, 40] ?_
          repeat' (first | (with_reducible (intro h9; exact absurd rfl h9)) | (with_reducible (intro h9; exact absurd h9 e_10)) | (with_reducible (intro h9; first | exact absurd e_00 h9 | exact absurd h9 e_n10 | exact absurd h9 e_n20 | exact absurd h9 e_n30)) | (with_reducible intro _) | (refine And.intro ?_ ?_) | (with_reducible refine e_sw_nil ?_) | (refine e_fa (fun _ => ?_)) | (refine e_ctK ?_; first | (refine Ct.mono (Ct.ar rfl rfl (sh)) ?_; intro o M' h8; obtain ⟨h9, rfl⟩ := h8; replace h9 := h9.symm; subst h9) | fail) | fail)
          all_goals first | (with_reducible refine e_goK ?_) | (with_reducible refine e_ctK ?_) | (with_reducible refine vp_inK ?_; (try simp (disch := omega) only [mI_sI2, mI_sL, mI_sP, mI_sN, mI_sIr, mI_sLr, mL_sI, mL_sL2, mL_sP, mL_sN, mL_sIr, mL_sLr, mP_sI, mP_sL, mP_sN, mP_sIr, mP_sLr, nI_add, nI_clamp]); exact vp_in_nI (by omega) (by omega)) | rfl | exact trivial | exact Nat.zero_le _ | exact (e_fit_01 _).1 | exact (e_fit_01 _).2 | (with_reducible refine vp_in_iff.mpr ?_; decide +kernel) | (with_reducible refine e_nz _ (by decide)) | decide | skip
          all_goals first | (refine e_kk (K := K) ?_; refine e_kc (kk) (by (repeat' (first | (refine e_cc ?_ ?_) | (with_reducible rfl) | (refine e_pp ?_; (try simp (disch := omega) only [e_po5, e_po8, e_po15, e_po20, e_po21, nI_clamp]); (try dsimp only [e_pt, e_po]); (try simp (disch := omega) only [nI_clamp]); omega) | (refine e_pps ?_; (try simp (disch := omega) only [e_po5, e_po8, e_po15, e_po20, e_po21, nI_clamp]); (try dsimp only [e_pt, e_po]); (try simp (disch := omega) only [nI_clamp]); omega) | (simp (disch := omega) only [mI_sI2, mI_sL, mI_sP, mI_sN, mI_sIr, mI_sLr, mL_sI, mL_sL2, mL_sP, mL_sN, mL_sIr, mL_sLr, mP_sI, mP_sL, mP_sN, mP_sIr, mP_sLr, e_po5, e_po8, e_po15, e_po20, e_po21, nI_clamp, n_lit, nI_add, if_pos, if_neg, and_self, if_true, e_clI, e_clP]; done) | ((try simp (disch := omega) only [mI_sI2, mI_sL, mI_sP, mI_sN, mI_sIr, mI_sLr, mL_sI, mL_sL2, mL_sP, mL_sN, mL_sIr, mL_sLr, mP_sI, mP_sL, mP_sN, mP_sIr, mP_sLr, e_po5, e_po8, e_po15, e_po20, e_po21, nI_clamp, n_lit, nI_add, if_pos, if_neg, and_self, if_true, e_clI, e_clP]); exact e_cnI (by omega)) | rfl | fail))) (by (repeat' (first | (refine e_cc ?_ ?_) | (with_reducible rfl) | (refine e_pp ?_; (try simp (disch := omega) only [e_po5, e_po8, e_po15, e_po20, e_po21, nI_clamp]); (try dsimp only [e_pt, e_po]); (try simp (disch := omega) only [nI_clamp]); omega) | (refine e_pps ?_; (try simp (disch := omega) only [e_po5, e_po8, e_po15, e_po20, e_po21, nI_clamp]); (try dsimp only [e_pt, e_po]); (try simp (disch := omega) only [nI_clamp]); omega) | (simp (disch := omega) only [mI_sI2, mI_sL, mI_sP, mI_sN, mI_sIr, mI_sLr, mL_sI, mL_sL2, mL_sP, mL_sN, mL_sIr, mL_sLr, mP_sI, mP_sL, mP_sN, mP_sIr, mP_sLr, e_po5, e_po8, e_po15, e_po20, e_po21, nI_clamp, n_lit, nI_add, if_pos, if_neg, and_self, if_true, e_clI, e_clP]; done) | ((try simp (disch := omega) only [mI_sI2, mI_sL, mI_sP, mI_sN, mI_sIr, mI_sLr, mL_sI, mL_sL2, mL_sP, mL_sN, mL_sIr, mL_sLr, mP_sI, mP_sL, mP_sN, mP_sIr, mP_sLr, e_po5, e_po8, e_po15, e_po20, e_po21, nI_clamp, n_lit, nI_add, if_pos, if_neg, and_self, if_true, e_clI, e_clP]); exact e_cnI (by omega)) | rfl | fail))) (by first | with_reducible rfl | (simp (disch := omega) only [mI_sI2, mI_sL, mI_sP, mI_sN, mI_sIr, mI_sLr, mL_sI, mL_sL2, mL_sP, mL_sN, mL_sIr, mL_sLr, mP_sI, mP_sL, mP_sN, mP_sIr, mP_sLr, e_po5, e_po8, e_po15, e_po20, e_po21, nI_clamp, n_lit, nI_add, if_pos, if_neg, and_self, if_true, e_clI, e_clP]; done) | rfl | fail); done) | contradiction | skip
        · rw [e_p0 (fun z => cc (rk.mp z))] at sh
          refine e_step rfl hc 60 [11, 40] ?_
          repeat' (first | (with_reducible (intro h9; exact absurd rfl h9)) | (with_reducible (intro h9; exact absurd h9 e_10)) | (with_reducible (intro h9; first | exact absurd e_00 h9 | exact absurd h9 e_n10 | exact absurd h9 e_n20 | exact absurd h9 e_n30)) | (with_reducible intro _) | (refine And.intro ?_ ?_) | (with_reducible refine e_sw_nil ?_) | (refine e_fa (fun _ => ?_)) | (refine e_ctK ?_; first | (refine Ct.mono (Ct.ar rfl rfl (sh)) ?_; intro o M' h8; obtain ⟨h9, rfl⟩ := h8; replace h9 := h9.symm; subst h9) | fail) | fail)
          all_goals first | (with_reducible refine e_goK ?_) | (with_reducible refine e_ctK ?_) | (with_reducible refine vp_inK ?_; (try simp (disch := omega) only [mI_sI2, mI_sL, mI_sP, mI_sN, mI_sIr, mI_sLr, mL_sI, mL_sL2, mL_sP, mL_sN, mL_sIr, mL_sLr, mP_sI, mP_sL, mP_sN, mP_sIr, mP_sLr, nI_add, nI_clamp]); exact vp_in_nI (by omega) (by omega)) | rfl | exact trivial | exact Nat.zero_le _ | exact (e_fit_01 _).1 | exact (e_fit_01 _).2 | (with_reducible refine vp_in_iff.mpr ?_; decide +kernel) | (with_reducible refine e_nz _ (by decide)) | decide | skip
          all_goals first | contradiction | skip
          refine BX.mk (TQ.yes e_fr.rf (by unfold sp_isSame; rw [if_pos hS]) ?_)
          unfold sp_isSame
          rw [if_pos hS, cq]
          exact e_p0 (fun z => cc (z k (by omega)))
    have kk := loop 8 0 (by omega) (fun e he => absurd he (by omega))
    refine e_step rfl hc 60 [11] ?_
    repeat' (first | (with_reducible (intro h9; exact absurd rfl h9)) | (with_reducible (intro h9; exact absurd h9 e_10)) | (with_reducible (intro h9; first | exact absurd e_00 h9 | exact absurd h9 e_n10 | exact absurd h9 e_n20 | exact absurd h9 e_n30)) | (with_reducible intro _) | (refine And.intro ?_ ?_) | (with_reducible refine e_sw_nil ?_) | (refine e_fa (fun _ => ?_)) | (refine e_ctK ?_; first | (refine Ct.mono (Ct.ar rfl rfl (c_sideAt1 hl0 M hq)) ?_; intro o M' h8; obtain ⟨h9, rfl⟩ := h8; replace h9 := h9.symm; subst h9) | (refine Ct.mono (Ct.ar rfl rfl (c_sideAt0 hl0 M _ hS)) ?_; intro o M' h8; obtain ⟨⟨n, h9⟩, rfl⟩ := h8; subst h9) | fail) | fail)
    all_goals first | (with_reducible refine e_goK ?_) | (with_reducible refine e_ctK ?_) | (with_reducible refine vp_inK ?_; (try simp (disch := omega) only [mI_sI2, mI_sL, mI_sP, mI_sN, mI_sIr, mI_sLr, mL_sI, mL_sL2, mL_sP, mL_sN, mL_sIr, mL_sLr, mP_sI, mP_sL, mP_sN, mP_sIr, mP_sLr, nI_add, nI_clamp]); exact vp_in_nI (by omega) (by omega)) | rfl | exact trivial | exact Nat.zero_le _ | exact (e_fit_01 _).1 | exact (e_fit_01 _).2 | (with_reducible refine vp_in_iff.mpr ?_; decide +kernel) | (with_reducible refine e_nz _ (by decide)) | decide | skip
    refine e_kk (K := K) ?_; refine e_kc (kk) (by (repeat' (first | (refine e_cc ?_ ?_) | (with_reducible rfl) | (refine e_pp ?_; (try simp (disch := omega) only [e_po5, e_po8, e_po15, e_po20, e_po21, nI_clamp]); (try dsimp only [e_pt, e_po]); (try simp (disch := omega) only [nI_clamp]); omega) | (refine e_pps ?_; (try simp (disch := omega) only [e_po5, e_po8, e_po15, e_po20, e_po21, nI_clamp]); (try dsimp only [e_pt, e_po]); (try simp (disch := omega) only [nI_clamp]); omega) | (simp (disch := omega) only [mI_sI2, mI_sL, mI_sP, mI_sN, mI_sIr, mI_sLr, mL_sI, mL_sL2, mL_sP, mL_sN, mL_sIr, mL_sLr, mP_sI, mP_sL, mP_sN, mP_sIr, mP_sLr, e_po5, e_po8, e_po15, e_po20, e_po21, nI_clamp, n_lit, nI_add, if_pos, if_neg, and_self, if_true, e_clI, e_clP]; done) | ((try simp (disch := omega) only [mI_sI2, mI_sL, mI_sP, mI_sN, mI_sIr, mI_sLr, mL_sI, mL_sL2, mL_sP, mL_sN, mL_sIr, mL_sLr, mP_sI, mP_sL, mP_sN, mP_sIr, mP_sLr, e_po5, e_po8, e_po15, e_po20, e_po21, nI_clamp, n_lit, nI_add, if_pos, if_neg, and_self, if_true, e_clI, e_clP]); exact e_cnI (by omega)) | rfl | fail))) (by (repeat' (first | (refine e_cc ?_ ?_) | (with_reducible rfl) | (refine e_pp ?_; (try simp (disch := omega) only [e_po5, e_po8, e_po15, e_po20, e_po21, nI_clamp]); (try dsimp only [e_pt, e_po]); (try simp (disch := omega) only [nI_clamp]); omega) | (refine e_pps ?_; (try simp (disch := omega) only [e_po5, e_po8, e_po15, e_po20, e_po21, nI_clamp]); (try dsimp only [e_pt, e_po]); (try simp (disch := omega) only [nI_clamp]); omega) | (simp (disch := omega) only [mI_sI2, mI_sL, mI_sP, mI_sN, mI_sIr, mI_sLr, mL_sI, mL_sL2, mL_sP, mL_sN, mL_sIr, mL_sLr, mP_sI, mP_sL, mP_sN, mP_sIr, mP_sLr, e_po5, e_po8, e_po15, e_po20, e_po21, nI_clamp, n_lit, nI_add, if_pos, if_neg, and_self, if_true, e_clI, e_clP]; done) | ((try simp (disch := omega) only [mI_sI2, mI_sL, mI_sP, mI_sN, mI_sIr, mI_sLr, mL_sI, mL_sL2, mL_sP, mL_sN, mL_sIr, mL_sLr, mP_sI, mP_sL, mP_sN, mP_sIr, mP_sLr, e_po5, e_po8, e_po15, e_po20, e_po21, nI_clamp, n_lit, nI_add, if_pos, if_neg, and_self, if_true, e_clI, e_clP]); exact e_cnI (by omega)) | rfl | fail))) (by first | with_reducible rfl | (simp (disch := omega) only [mI_sI2, mI_sL, mI_sP, mI_sN, mI_sIr, mI_sLr, mL_sI, mL_sL2, mL_sP, mL_sN, mL_sIr, mL_sLr, mP_sI, mP_sL, mP_sN, mP_sIr, mP_sLr, e_po5, e_po8, e_po15, e_po20, e_po21, nI_clamp, n_lit, nI_add, if_pos, if_neg, and_self, if_true, e_clI, e_clP]; done) | rfl | fail)
  · refine e_step rfl hc 60 [] ?_
    repeat' (first | (with_reducible (intro h9; exact absurd rfl h9)) | (with_reducible (intro h9; exact absurd h9 e_10)) | (with_reducible (intro h9; first | exact absurd e_00 h9 | exact absurd h9 e_n10 | exact absurd h9 e_n20 | exact absurd h9 e_n30)) | (with_reducible intro _) | (refine And.intro ?_ ?_) | (with_reducible refine e_sw_nil ?_) | (refine e_fa (fun _ => ?_)) | (refine e_ctK ?_; first | (refine Ct.mono (Ct.ar rfl rfl (c_sideAt1 hl0 M hq)) ?_; intro o M' h8; obtain ⟨h9, rfl⟩ := h8; replace h9 := h9.symm; subst h9) | (refine Ct.mono (Ct.ar rfl rfl (c_sideAt0 hl0 M _ hS)) ?_; intro o M' h8; obtain ⟨⟨n, h9⟩, rfl⟩ := h8; subst h9) | fail) | fail)
    all_goals first | (with_reducible refine e_goK ?_) | (with_reducible refine e_ctK ?_) | (with_reducible refine vp_inK ?_; (try simp (disch := omega) only [mI_sI2, mI_sL, mI_sP, mI_sN, mI_sIr, mI_sLr, mL_sI, mL_sL2, mL_sP, mL_sN, mL_sIr, mL_sLr, mP_sI, mP_sL, mP_sN, mP_sIr, mP_sLr, nI_add, nI_clamp]); exact vp_in_nI (by omega) (by omega)) | rfl | exact trivial | exact Nat.zero_le _ | exact (e_fit_01 _).1 | exact (e_fit_01 _).2 | (with_reducible refine vp_in_iff.mpr ?_; decide +kernel) | (with_reducible refine e_nz _ (by decide)) | decide | skip
    all_goals first | (exact BX.mk (TQ.no (k := 1) e_fr.rf (by unfold sp_isSame; rw [if_neg hS]) (by decide) rfl)) | (exfalso; omega) | skip
end
