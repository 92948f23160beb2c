/-! THE LAW, 3: a calendar is drawn. -/
section
variable {l : Launch} {g : EG}
/-- an event's text, as it is drawn -/
def EvT (E : List Nat) : Prop := ∃ day mi le z R, day < 1095 ∧ mi < 1440 ∧ (1 ≤ le ∧ le ≤ 600) ∧ z < 2 ∧ RuleT R ∧ E = cT 21 ++ (dgs day ++ ([32] ++ (dgs mi ++ ([32] ++ (dgs le ++ ([32] ++ (dgs z ++ (R ++ [59]))))))))
def EvsT : Nat → List Nat → Prop
  | 0, E => E = []
  | k + 1, E => ∃ E1 E2, EvsT k E1 ∧ EvT E2 ∧ E = E1 ++ E2
/-- the zones' text, as it is drawn -/
def HeadT (H : List Nat) : Prop := ∃ k s sm, (k = 17 ∨ k = 18) ∧ s ≤ 720 ∧ (sm = [] ∨ ∃ w, 80 ≤ w ∧ w ≤ 279 ∧ sm = [] ++ cT 19 ++ dgs w) ∧ H = cT 16 ++ cT k ++ dgs s ++ sm ++ cT 20
/-- a calendar's text with k events, as it is drawn -/
def CalT (k : Nat) (T : List Nat) : Prop := ∃ H E, HeadT H ∧ EvsT k E ∧ T = H ++ E
theorem cT17 : cT 17 = [] := by decide +kernel
theorem dgs1 {v : Nat} (h : v < 10) : (dgs v).length = 1 := by unfold dgs; rw [if_pos h]; rfl
theorem dgs2 {v : Nat} (h : v < 100) : (dgs v).length ≤ 2 := by
  unfold dgs
  split
  · exact (by decide : 1 ≤ 2)
  · exact Nat.le_refl 2
theorem dgs3 {v : Nat} (h : v < 1000) : (dgs v).length ≤ 3 := by
  unfold dgs
  split
  · exact (by decide : 1 ≤ 3)
  · split
    · exact (by decide : 2 ≤ 3)
    · exact Nat.le_refl 3
theorem cT_lens : (cT 16).length = 5 ∧ (cT 18).length = 1 ∧ (cT 19).length = 11 ∧ (cT 20).length = 22 ∧ (cT 21).length = 6 ∧ (cT 29).length = 7 ∧ (cT 30).length = 12 ∧ (cT 31).length = 7 ∧ (cT 32).length = 1 ∧ (cT 33).length = 7 ∧ (cT 34).length = 14 ∧ ∀ d, d < 7 → (cT (22 + d)).length = 2 := by decide +kernel
theorem RuleT.len {R : List Nat} (h : RuleT R) : R.length ≤ 29 := by
  obtain ⟨z1, z2, z3, z4, z5, c1, c2, c3, c4, c5, c6, c7⟩ := cT_lens
  rcases h with rfl | ⟨n, t, hn, ht, rfl⟩ | ⟨n, t, d, hn, ht, hd, rfl | rfl⟩ | ⟨n, t, hn, ht, rfl⟩
  · exact Nat.zero_le _
  · have a1 := dgs1 (v := n) (by omega)
    have a2 := dgs2 (v := t) (by omega)
    simp only [List.length_append, List.length_nil]
    omega
  · have a1 := dgs1 (v := n) (by omega)
    have a2 := dgs2 (v := t) (by omega)
    have a3 := c7 d (by omega)
    rw [cT17]
    simp only [List.length_append, List.length_nil]
    omega
  · have a1 := dgs1 (v := n) (by omega)
    have a2 := dgs2 (v := t) (by omega)
    have a3 := c7 d (by omega)
    have a4 := c7 (d + 1) (by omega)
    simp only [List.length_append, List.length_nil]
    omega
  · have a1 := dgs1 (v := n) (by omega)
    have a2 := dgs2 (v := t) (by omega)
    simp only [List.length_append, List.length_nil]
    omega
theorem EvT.len {E : List Nat} (h : EvT E) : E.length ≤ 51 := by
  obtain ⟨z1, z2, z3, z4, z5, -⟩ := cT_lens
  obtain ⟨day, mi, le, z, R, h1, h2, h3, h4, h5, rfl⟩ := h
  have a1 := (dgs_len (v := day)).2
  have a2 := (dgs_len (v := mi)).2
  have a3 := dgs3 (v := le) (by omega)
  have a4 := dgs1 (v := z) (by omega)
  have a5 := h5.len
  simp only [List.length_append, List.length_cons, List.length_nil]
  omega
theorem EvsT.len : ∀ {k : Nat} {E : List Nat}, EvsT k E → E.length ≤ 51 * k
  | 0, _, h => by rw [show _ = [] from h]; exact Nat.zero_le _
  | k + 1, _, ⟨E1, E2, h1, h2, h3⟩ => by
    have a1 := EvsT.len h1
    have a2 := h2.len
    rw [h3, List.length_append]
    omega
theorem HeadT.len {H : List Nat} (h : HeadT H) : H.length ≤ 45 := by
  obtain ⟨z1, z2, z3, z4, z5, -⟩ := cT_lens
  obtain ⟨k, s, sm, hk, hs, hm, rfl⟩ := h
  have a1 := dgs3 (v := s) (by omega)
  have a2 : (cT k).length ≤ 1 := by
    rcases hk with rfl | rfl
    · rw [cT17]; exact Nat.zero_le _
    · omega
  have a3 : sm.length ≤ 14 := by
    rcases hm with rfl | ⟨w, w1, w2, rfl⟩
    · exact Nat.zero_le _
    · have := dgs3 (v := w) (by omega)
      simp only [List.length_append, List.length_nil]
      omega
  simp only [List.length_append]
  omega
theorem CalT.len {k : Nat} {T : List Nat} (h : CalT k T) : T.length ≤ 45 + 51 * k := by
  obtain ⟨H, E, h1, h2, rfl⟩ := h
  have a1 := h1.len
  have a2 := h2.len
  rw [List.length_append]
  omega
theorem CalT.snoc {k : Nat} {T E : List Nat} (h : CalT k T) (hE : EvT E) : CalT (k + 1) (T ++ E) := by
  obtain ⟨H, E0, h1, h2, rfl⟩ := h
  exact ⟨H, E0 ++ E, h1, ⟨E0, E, h2, hE, rfl⟩, List.append_assoc _ _ _⟩
theorem BL.fr {M0 M M' : EM} {r a n : Nat} {T : List Nat} (h : BL M0 M r a T n) (f : fr2 M M' r r) : BL M0 M' r a T n := ⟨h.1.fr f, h.2⟩
theorem BL.le {M0 M : EM} {r a n n' : Nat} {T : List Nat} (h : BL M0 M r a T n) (hn : n ≤ n') : BL M0 M r a T n' := ⟨h.1, Nat.le_trans h.2 hn⟩
/-- a rule is appended -/
theorem kb_appR (hl0 : l.stackTraces = false) {M0 M M' : EM} {r a n : Nat} {q : Nat × Nat} {T R : List Nat} (h : BL M0 M r a T n) (hR : RS g M M' r q R) (hl : R.length ≤ 29) (hn : n ≤ 900) : Ct l g sg_J4_append_15ec4 [lvS a, .inr (.inr (.inr (.inr q)))] M' (fun o M2 => BX (o = .inl (some (lvS a)) ∧ BL M0 M2 r a (T ++ R) (n + 29))) := by
  have hlen : (T ++ R).length ≤ n + 29 := by rw [List.length_append]; exact Nat.add_le_add h.2 hl
  rcases hR with ⟨t1, t2, c, t3, t4, t5⟩ | ⟨rfl, rfl, hf⟩
  · obtain ⟨q1, q2⟩ := q
    obtain rfl : q1 = 56 := t2
    refine (k_appT hl0 h.1 t1 t3 ⟨t4, t5⟩ (Nat.le_trans (Nat.add_le_add h.2 hl) (by omega))).mono ?_
    rintro o M2 ⟨⟨rfl, h'⟩⟩
    exact ⟨⟨rfl, h', hlen⟩⟩
  · refine (k_appK hl0 (h.fr hf).1 (k := 17) (by decide) (Nat.le_trans h.2 hn)).mono ?_
    rintro o M2 ⟨⟨rfl, h'⟩⟩
    rw [cT17] at h'
    exact ⟨⟨rfl, h', hlen⟩⟩
set_option maxRecDepth 100000 in
theorem c_calendar (hl0 : l.stackTraces = false) {M : EM} {r : Nat} (hr : r < mN M) : Ct l g sg_L_calendar [lvR r] M (fun o M' => BX (∃ q T k, o = .inl (some (.inr (.inr (.inr (.inr q))))) ∧ k ≤ 5 ∧ CalT k T ∧ TS M M' r q T)) := by
  refine sem_ofF hl0 mt_L_calendar ok_L_calendar rfl (fun K hc hw => e_step rfl hc 160 [25] ?_)
  have gc_J4_append_15ec4 : gmc sg_J4_append_15ec4 = 1 := rfl
  have gs_J4_append_15ec4 : gms sg_J4_append_15ec4 = 4096 := rfl
  have gc_J4_append_bf812 : gmc sg_J4_append_bf812 = 1 := rfl
  have gs_J4_append_bf812 : gms sg_J4_append_bf812 = 4096 := rfl
  have gc_J4_append_cf468 : gmc sg_J4_append_cf468 = 1 := rfl
  have gs_J4_append_cf468 : gms sg_J4_append_cf468 = 4096 := rfl
  have gc_J4_init_a7421 : gmc sg_J4_init_a7421 = 2 := rfl
  have gs_J4_init_a7421 : gms sg_J4_init_a7421 = 4160 := rfl
  have gc_J4_init_da8c8 : gmc sg_J4_init_da8c8 = 1 := rfl
  have gs_J4_init_da8c8 : gms sg_J4_init_da8c8 = 64 := rfl
  have gc_J4_toString_0e30d : gmc sg_J4_toString_0e30d = 2 := rfl
  have gs_J4_toString_0e30d : gms sg_J4_toString_0e30d = 4100 := rfl
  have gc_L_rule : gmc sg_L_rule = 34 := rfl
  have gs_L_rule : gms sg_L_rule = 86311 := rfl
  have gc_L_next : gmc sg_L_next = 0 := rfl
  have gs_L_next : gms sg_L_next = 0 := rfl
  have gc_L_calendar : gmc sg_L_calendar = 235 := rfl
  have gs_L_calendar : gms sg_L_calendar = 673363 := rfl
  have g10 : e_cN 10 = 4 := rfl
  obtain ⟨a, ha⟩ : ∃ a, a = mN M := ⟨_, rfl⟩
  -- an event behind its day
  have h136 : ∀ j M2 T day k nc ns, (∀ j' M' T' nc' ns' k', j' = j + 1 → BL M M' r a T' (200 + 110 * j') → CalT j' T' → nc' ≤ 13 + 44 * j' → ns' ≤ 32908 + 127271 * j' → k' + 1 = k → K 99 [some (lvR r), some (lvS a), some (.inl (nI k'))] [] M' nc' ns') → j ≤ 4 → 1 ≤ k → k ≤ 5 → BL M M2 r a (T ++ cT 21) (200 + 110 * j + 23) → CalT j T → day < 1095 → nc ≤ 14 + 44 * j → ns ≤ 37004 + 127271 * j → K 136 [some (lvR r), some (lvS a), some (.inl (nI k))] [.inl (nI day), lvS a] M2 nc ns := fun j M2 T day k nc ns ih hj hk1 hk5 hB hC hd hnc hns => e_step rfl hc 160 [99] (by
    refine ⟨⟨by omega, by omega⟩, Ct.mono (kb_appI hl0 hB (by omega) (by omega)) ?_⟩
    rintro o M3 ⟨⟨rfl, hB⟩⟩
    refine ⟨⟨by omega, by omega⟩, Ct.mono (kb_appC hl0 hB (v := 32) (by decide) (by omega)) ?_⟩
    rintro o M4 ⟨⟨rfl, hB⟩⟩
    refine ⟨⟨by omega, by omega⟩, Ct.mono (kb_next hl0 hB) ?_⟩
    rintro o M5 ⟨⟨hN, hB, k1, hk', rfl⟩⟩
    have e1 : nI k1 - nI k1 / 1440 * 1440 = nI (k1 % 1440) := dr_rem hk' (d := 1440) (by decide) (by decide)
    refine ⟨hN, (by decide : ¬ (1440 : Int32) = 0), ⟨by omega, by omega⟩, Ct.mono (show Ct l g sg_J4_append_bf812 [lvS a, .inl (nI k1 - nI k1 / 1440 * 1440)] M5 _ from by rw [e1]; exact kb_appI hl0 hB (by omega) (by omega)) ?_⟩
    rintro o M6 ⟨⟨rfl, hB⟩⟩
    refine ⟨⟨by omega, by omega⟩, Ct.mono (kb_appC hl0 hB (v := 32) (by decide) (by omega)) ?_⟩
    rintro o M7 ⟨⟨rfl, hB⟩⟩
    refine ⟨⟨by omega, by omega⟩, Ct.mono (kb_next hl0 hB) ?_⟩
    rintro o M8 ⟨⟨hN, hB, k2, hk2, rfl⟩⟩
    have e2 : 1 + (nI k2 - nI k2 / 600 * 600) = nI (1 + k2 % 600) := dr_rem1 hk2 (d := 600) (by decide) (by decide)
    refine ⟨hN, (by decide : ¬ (600 : Int32) = 0), ⟨by omega, by omega⟩, Ct.mono (show Ct l g sg_J4_append_bf812 [lvS a, .inl (1 + (nI k2 - nI k2 / 600 * 600))] M8 _ from by rw [e2]; exact kb_appI hl0 hB (by omega) (by omega)) ?_⟩
    rintro o M9 ⟨⟨rfl, hB⟩⟩
    refine ⟨⟨by omega, by omega⟩, Ct.mono (kb_appC hl0 hB (v := 32) (by decide) (by omega)) ?_⟩
    rintro o M10 ⟨⟨rfl, hB⟩⟩
    refine ⟨⟨by omega, by omega⟩, Ct.mono (kb_next hl0 hB) ?_⟩
    rintro o M11 ⟨⟨hN, hB, k3, hk3, rfl⟩⟩
    have e3 : nI k3 - nI k3 / 2 * 2 = nI (k3 % 2) := dr_rem hk3 (d := 2) (by decide) (by decide)
    refine ⟨hN, (by decide : ¬ (2 : Int32) = 0), ⟨by omega, by omega⟩, Ct.mono (show Ct l g sg_J4_append_bf812 [lvS a, .inl (nI k3 - nI k3 / 2 * 2)] M11 _ from by rw [e3]; exact kb_appI hl0 hB (by omega) (by omega)) ?_⟩
    rintro o M12 ⟨⟨rfl, hB⟩⟩
    have hr12 : r < mN M12 := by have := hB.1.2.2.1.1; omega
    refine ⟨⟨by omega, by omega⟩, Ct.mono (c_rule hl0 hr12) ?_⟩
    rintro o M13 ⟨⟨q, R, rfl, hRT, hRS⟩⟩
    refine ⟨⟨by omega, by omega⟩, Ct.mono (kb_appR hl0 hB hRS hRT.len (by omega)) ?_⟩
    rintro o M14 ⟨⟨rfl, hB⟩⟩
    refine ⟨⟨by omega, by omega⟩, Ct.mono (kb_appC hl0 hB (v := 59) (by decide) (by omega)) ?_⟩
    rintro o M15 ⟨⟨rfl, hB⟩⟩
    obtain ⟨k9, rfl⟩ : ∃ k9, k = k9 + 1 := ⟨k - 1, by omega⟩
    have e9 : nI (k9 + 1) + (-1) = nI k9 := by have h9 := nI_pred k9; rw [Int32.sub_eq_add_neg] at h9; exact h9
    show K 99 [some (lvR r), some (lvS a), some (.inl (nI (k9 + 1) + (-1)))] [] M15 _ _
    rw [e9]
    have hE : EvT (cT 21 ++ (dgs day ++ ([32] ++ (dgs (k1 % 1440) ++ ([32] ++ (dgs (1 + k2 % 600) ++ ([32] ++ (dgs (k3 % 2) ++ (R ++ [59]))))))))) := ⟨_, _, _, _, R, hd, by omega, ⟨by omega, by omega⟩, by omega, hRT, rfl⟩
    simp only [List.append_assoc] at hB
    exact ih (j + 1) M15 _ _ _ k9 rfl (BL.le hB (by omega)) (hC.snoc hE) (by omega) (by omega) rfl)
  have hloop : ∀ k j M2 T nc ns, k + j ≤ 5 → BL M M2 r a T (200 + 110 * j) → CalT j T → nc ≤ 13 + 44 * j → ns ≤ 32908 + 127271 * j → K 99 [some (lvR r), some (lvS a), some (.inl (nI k))] [] M2 nc ns := by
    intro k
    induction k with
    | zero =>
      intro j M2 T nc ns hj hB hC hnc hns
      refine e_step rfl hc 160 [] ?_
      refine ⟨fun _ => ?_, fun h9 => absurd (show (nI 0 : Int32) ≤ 0 from by decide) h9⟩
      refine ⟨⟨by omega, by omega⟩, Ct.mono (kb_toS hl0 hB) ?_⟩
      rintro o M3 ⟨⟨rfl, hT⟩⟩
      exact ⟨by omega, by omega, ⟨⟨_, T, j, rfl, by omega, hC, hT⟩⟩⟩
    | succ k ih =>
      intro j M2 T nc ns hj hB hC hnc hns
      have ih' : ∀ j' M' T' nc' ns' k', j' = j + 1 → BL M M' r a T' (200 + 110 * j') → CalT j' T' → nc' ≤ 13 + 44 * j' → ns' ≤ 32908 + 127271 * j' → k' + 1 = k + 1 → K 99 [some (lvR r), some (lvS a), some (.inl (nI k'))] [] M' nc' ns' := by
        intro j' M' T' nc' ns' k' hj' hB' hC' hnc' hns' hk'
        have hkk : k' = k := by omega
        rw [hkk]
        exact ih j' M' T' nc' ns' (by omega) hB' hC' hnc' hns'
      refine e_step rfl hc 160 [136] ?_
      refine ⟨fun h9 => absurd h9 (nI_nle (Nat.succ_pos k) (by omega)), fun _ => ?_⟩
      refine ⟨⟨by omega, by omega⟩, Ct.mono (kb_appK hl0 hB (k := 21) (by decide) (by omega)) ?_⟩
      rintro o M3 ⟨⟨rfl, hB⟩⟩
      refine ⟨⟨by omega, by omega⟩, Ct.mono (kb_next hl0 hB) ?_⟩
      rintro o M4 ⟨⟨hN, hB, k1, hk1, rfl⟩⟩
      refine ⟨hN, (by decide : ¬ (4 : Int32) = 0), fun _ => ?_, fun _ => ?_⟩
      · refine ⟨⟨by omega, by omega⟩, Ct.mono (kb_next hl0 hB) ?_⟩
        rintro o M5 ⟨⟨hN, hB, k2, hk2, rfl⟩⟩
        have e2 : nI k2 - nI k2 / 60 * 60 = nI (k2 % 60) := dr_rem hk2 (d := 60) (by decide) (by decide)
        refine ⟨hN, (by decide : ¬ (60 : Int32) = 0), ?_⟩
        show K 136 [some (lvR r), some (lvS a), some (.inl (nI (k + 1)))] [.inl (nI k2 - nI k2 / 60 * 60), lvS a] M5 _ _
        rw [e2]
        exact h136 j M5 T _ (k + 1) _ _ ih' (by omega) (by omega) (by omega) hB hC (by omega) (by omega) (by omega)
      · refine ⟨⟨by omega, by omega⟩, Ct.mono (kb_next hl0 hB) ?_⟩
        rintro o M5 ⟨⟨hN, hB, k2, hk2, rfl⟩⟩
        have e2 : nI k2 - nI k2 / 1095 * 1095 = nI (k2 % 1095) := dr_rem hk2 (d := 1095) (by decide) (by decide)
        refine ⟨hN, (by decide : ¬ (1095 : Int32) = 0), ?_⟩
        show K 136 [some (lvR r), some (lvS a), some (.inl (nI (k + 1)))] [.inl (nI k2 - nI k2 / 1095 * 1095), lvS a] M5 _ _
        rw [e2]
        exact h136 j M5 T _ (k + 1) _ _ ih' (by omega) (by omega) (by omega) hB hC (by omega) (by omega) (by omega)
  -- the zones' end
  have h82 : ∀ M2 q k s sm nc ns, (k = 17 ∨ k = 18) → s ≤ 720 → (sm = [] ∨ ∃ w, 80 ≤ w ∧ w ≤ 279 ∧ sm = [] ++ cT 19 ++ dgs w) → nc ≤ 11 → ns ≤ 24716 → Ct l g sg_J4_append_15ec4 [lvS a, .inr (.inr (.inr (.inr q)))] M2 (fun o M' => BX (o = .inl (some (lvS a)) ∧ BL M M' r a (cT 16 ++ cT k ++ dgs s ++ sm) 150)) → K 82 [some (lvR r), none, none] [.inr (.inr (.inr (.inr q))), lvS a] M2 nc ns := fun M2 q k s sm nc ns hk hs hsm hnc hns hA => e_step rfl hc 160 [99] (by
    refine ⟨⟨by omega, by omega⟩, Ct.mono hA ?_⟩
    rintro o M3 ⟨⟨rfl, hB⟩⟩
    refine ⟨⟨by omega, by omega⟩, Ct.mono (kb_appK hl0 hB (k := 20) (by decide) (by omega)) ?_⟩
    rintro o M4 ⟨⟨rfl, hB⟩⟩
    refine ⟨⟨by omega, by omega⟩, Ct.mono (kb_next hl0 hB) ?_⟩
    rintro o M5 ⟨⟨hN, hB, k1, hk1, rfl⟩⟩
    have e1 : nI k1 - nI k1 / 6 * 6 = nI (k1 % 6) := dr_rem hk1 (d := 6) (by decide) (by decide)
    refine ⟨hN, (by decide : ¬ (6 : Int32) = 0), ?_⟩
    show K 99 [some (lvR r), some (lvS a), some (.inl (nI k1 - nI k1 / 6 * 6))] [] M5 _ _
    rw [e1]
    exact hloop _ 0 M5 _ _ _ (by omega) (BL.le hB (by omega)) ⟨_, [], ⟨k, s, sm, hk, hs, hsm, rfl⟩, rfl, (List.append_nil _).symm⟩ (by omega) (by omega))
  have h25 : ∀ M2 k nc ns, (k = 17 ∨ k = 18) → BL M M2 r a (cT 16) 23 → nc ≤ 3 → ns ≤ 4164 → K 25 [some (lvR r), none, none] [lvC g k, lvS a] M2 nc ns := fun M2 k nc ns hk hB hnc hns => e_step rfl hc 160 [82] (by
    refine ⟨⟨by omega, by omega⟩, Ct.mono (kb_appK hl0 hB (k := k) (by omega) (by omega)) ?_⟩
    rintro o M3 ⟨⟨rfl, hB⟩⟩
    refine ⟨⟨by omega, by omega⟩, Ct.mono (kb_next hl0 hB) ?_⟩
    rintro o M4 ⟨⟨hN, hB, k1, hk1, rfl⟩⟩
    have e1 : nI k1 - nI k1 / 721 * 721 = nI (k1 % 721) := dr_rem hk1 (d := 721) (by decide) (by decide)
    refine ⟨hN, (by decide : ¬ (721 : Int32) = 0), ⟨by omega, by omega⟩, Ct.mono (show Ct l g sg_J4_append_bf812 [lvS a, .inl (nI k1 - nI k1 / 721 * 721)] M4 _ from by rw [e1]; exact kb_appI hl0 hB (by omega) (by omega)) ?_⟩
    rintro o M5 ⟨⟨rfl, hB⟩⟩
    refine ⟨⟨by omega, by omega⟩, Ct.mono (kb_next hl0 hB) ?_⟩
    rintro o M6 ⟨⟨hN, hB, k2, hk2, rfl⟩⟩
    have hr6 : r < mN M6 := by have := hB.1.2.2.1.1; omega
    refine ⟨hN, (by decide : ¬ (2 : Int32) = 0), fun _ => ?_, fun _ => ?_⟩
    · refine ⟨⟨by omega, by omega⟩, ⟨by omega, by omega⟩, Ct.mono (kb_new hl0 (M0 := M6) fr2.rf hr6) ?_⟩
      rintro o M7 ⟨⟨rfl, hI⟩⟩
      refine ⟨⟨by omega, by omega⟩, Ct.mono (kb_appK hl0 hI (k := 19) (by decide) (by decide)) ?_⟩
      rintro o M8 ⟨⟨rfl, hI⟩⟩
      refine ⟨⟨by omega, by omega⟩, Ct.mono (kb_next hl0 hI) ?_⟩
      rintro o M9 ⟨⟨hN, hI, k3, hk3, rfl⟩⟩
      have e3 : 80 + (nI k3 - nI k3 / 200 * 200) = nI (80 + k3 % 200) := by
        have := dr_rem hk3 (d := 200) (by decide) (by decide)
        rw [show (200 : Int32) = nI 200 from rfl, this]; exact nI_add 80 _
      refine ⟨hN, (by decide : ¬ (200 : Int32) = 0), ⟨by omega, by omega⟩, Ct.mono (show Ct l g sg_J4_append_bf812 [lvS (mN M6), .inl (80 + (nI k3 - nI k3 / 200 * 200))] M9 _ from by rw [e3]; exact kb_appI hl0 hI (by omega) (by decide)) ?_⟩
      rintro o M10 ⟨⟨rfl, hI⟩⟩
      refine ⟨⟨by omega, by omega⟩, Ct.mono (kb_toS hl0 hI) ?_⟩
      rintro o M11 ⟨⟨rfl, hT⟩⟩
      obtain ⟨t1, t2, c, t3, t4, t5⟩ := hT
      refine h82 M11 _ k (k1 % 721) _ _ _ hk (by omega) (Or.inr ⟨80 + k3 % 200, by omega, by omega, rfl⟩) (by omega) (by omega) ((k_appT hl0 hB.1 t1 t3 ⟨t4, t5⟩ (Nat.le_trans (Nat.add_le_add hB.2 hI.2) (by decide))).mono ?_)
      rintro o M14 ⟨⟨rfl, h14⟩⟩
      exact ⟨⟨rfl, h14, by rw [List.length_append]; exact Nat.le_trans (Nat.add_le_add hB.2 hI.2) (by decide)⟩⟩
    · refine h82 M6 _ k (k1 % 721) [] _ _ hk (by omega) (Or.inl rfl) (by omega) (by omega) ((kb_appK hl0 hB (k := 17) (by decide) (by decide)).mono ?_)
      rintro o M14 ⟨⟨rfl, h14⟩⟩
      rw [cT17] at h14
      exact ⟨⟨rfl, BL.le h14 (by decide)⟩⟩)
  subst ha
  refine ⟨⟨by omega, by omega⟩, ⟨by omega, by omega⟩, Ct.mono (kb_newS hl0 fr2.rf hr (k := 16) (by decide)) ?_⟩
  rintro o M2 ⟨⟨rfl, hB⟩⟩
  refine ⟨⟨by omega, by omega⟩, Ct.mono (kb_next hl0 hB) ?_⟩
  rintro o M3 ⟨⟨hN, hB, k1, hk1, rfl⟩⟩
  exact ⟨hN, (by decide : ¬ (2 : Int32) = 0), fun _ => h25 M3 18 _ _ (Or.inr rfl) hB (by omega) (by omega), fun _ => h25 M3 17 _ _ (Or.inl rfl) hB (by omega) (by omega)⟩
end
