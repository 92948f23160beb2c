/-! THE LAW, 2: a rule is drawn. -/
section
variable {l : Launch} {g : EG}
/-- a builder with at most n letters -/
def BL (M0 M : EM) (r a : Nat) (T : List Nat) (n : Nat) : Prop := BS M0 M r a T ∧ T.length ≤ n
abbrev lvS (a : Nat) : EV := .inr (.inr (.inr (.inr (57, a))))
abbrev lvR (r : Nat) : EV := .inr (.inr (.inr (.inr (52, r))))
abbrev lvC (g : EG) (k : Nat) : EV := .inr (.inr (.inr (.inr (200 + k, gS g k))))
theorem kb_new (hl0 : l.stackTraces = false) {M0 M : EM} {r : Nat} (h : fr2 M0 M r r) (hr : r < mN M0) : Ct l g sg_J4_init_da8c8 [lvS (mN M)] (sNew M 57) (fun o M' => BX (o = .inl none ∧ BL M0 M' r (mN M) [] 0)) :=
  (k_new hl0 h hr).mono (by rintro o M' ⟨⟨rfl, h⟩⟩; exact ⟨⟨rfl, h, Nat.le_refl _⟩⟩)
theorem kb_newS (hl0 : l.stackTraces = false) {M0 M : EM} {r k : Nat} (h : fr2 M0 M r r) (hr : r < mN M0) (hk : k < 35) : Ct l g sg_J4_init_a7421 [lvS (mN M), lvC g k] (sNew M 57) (fun o M' => BX (o = .inl none ∧ BL M0 M' r (mN M) (cT k) 23)) :=
  (k_newS hl0 h hr hk).mono (by rintro o M' ⟨⟨rfl, h⟩⟩; exact ⟨⟨rfl, h, cT_len k hk⟩⟩)
theorem kb_appK (hl0 : l.stackTraces = false) {M0 M : EM} {r a k n : Nat} {T : List Nat} (h : BL M0 M r a T n) (hk : k < 35) (hn : n ≤ 900) : Ct l g sg_J4_append_15ec4 [lvS a, lvC g k] M (fun o M' => BX (o = .inl (some (lvS a)) ∧ BL M0 M' r a (T ++ cT k) (n + 23))) :=
  (k_appK hl0 h.1 hk (Nat.le_trans h.2 hn)).mono (by rintro o M' ⟨⟨rfl, h'⟩⟩; exact ⟨⟨rfl, h', by rw [List.length_append]; exact Nat.add_le_add h.2 (cT_len k hk)⟩⟩)
theorem kb_appI (hl0 : l.stackTraces = false) {M0 M : EM} {r a v n : Nat} {T : List Nat} (h : BL M0 M r a T n) (hv : v < 10000) (hn : n ≤ 900) : Ct l g sg_J4_append_bf812 [lvS a, .inl (nI v)] M (fun o M' => BX (o = .inl (some (lvS a)) ∧ BL M0 M' r a (T ++ dgs v) (n + 4))) :=
  (k_appI hl0 h.1 hv (Nat.le_trans h.2 hn)).mono (by rintro o M' ⟨⟨rfl, h'⟩⟩; exact ⟨⟨rfl, h', by rw [List.length_append]; exact Nat.add_le_add h.2 dgs_len.2⟩⟩)
theorem kb_appC (hl0 : l.stackTraces = false) {M0 M : EM} {r a v n : Nat} {T : List Nat} (h : BL M0 M r a T n) (hv : v < 128) (hn : n ≤ 900) : Ct l g sg_J4_append_cf468 [lvS a, .inl (nI v)] M (fun o M' => BX (o = .inl (some (lvS a)) ∧ BL M0 M' r a (T ++ [v]) (n + 1))) :=
  (k_appC hl0 h.1 hv (Nat.le_trans h.2 hn)).mono (by rintro o M' ⟨⟨rfl, h'⟩⟩; exact ⟨⟨rfl, h', by rw [List.length_append]; exact Nat.add_le_add_right h.2 1⟩⟩)
theorem kb_next (hl0 : l.stackTraces = false) {M0 M : EM} {r a n : Nat} {T : List Nat} (h : BL M0 M r a T n) : Ct l g sg_L_next [lvR r] M (fun o M' => BX (mN M' = mN M ∧ BL M0 M' r a T n ∧ ∃ k, k < 8388608 ∧ o = .inl (some (.inl (nI k))))) :=
  (k_next hl0 h.1).mono (by rintro o M' ⟨⟨h0, h', k, hk, rfl⟩⟩; exact ⟨⟨h0, ⟨h', h.2⟩, k, hk, rfl⟩⟩)
theorem kb_toS (hl0 : l.stackTraces = false) {M0 M : EM} {r a n : Nat} {T : List Nat} (h : BL M0 M r a T n) : Ct l g sg_J4_toString_0e30d [lvS a] M (fun o M' => BX (o = .inl (some (.inr (.inr (.inr (.inr (56, mN M)))))) ∧ TS M0 M' r (56, mN M) T)) := k_toS hl0 h.1
/-- a drawn number's rest, and one more -/
theorem dr_rem {k d : Nat} (hk : k < 8388608) (h0 : 0 < d) (hd : d < 2 ^ 31) : nI k - nI k / nI d * nI d = nI (k % d) := pk_rem (by omega) h0 hd
theorem dr_rem1 {k d : Nat} (hk : k < 8388608) (h0 : 0 < d) (hd : d < 2 ^ 31) : 1 + (nI k - nI k / nI d * nI d) = nI (1 + k % d) := by rw [dr_rem hk h0 hd]; exact nI_add 1 _
theorem fr2.sP {M : EM} {y k v : Nat} : fr2 M (sP M y k v) y y := fr2.mk2 rfl rfl rfl (fun c h1 _ => ⟨rfl, rfl, by funext j; rw [mP_sP3, if_neg (fun z => h1 z.1)]⟩)
/-- the words of the days -/
def dA (g : EG) (M : EM) (y : Nat) : Prop := ∀ i, i < 7 → mP M y i = some (gS g (22 + i))
/-- a rule's text, as it is drawn -/
def RuleT (T : List Nat) : Prop := T = [] ∨ (∃ n t, (1 ≤ n ∧ n ≤ 9) ∧ (1 ≤ t ∧ t ≤ 12) ∧ T = [] ++ cT 29 ++ dgs n ++ cT 30 ++ dgs t) ∨
  (∃ n t d, (1 ≤ n ∧ n ≤ 3) ∧ (1 ≤ t ∧ t ≤ 12) ∧ d < 6 ∧ (T = [] ++ cT 29 ++ dgs n ++ cT 31 ++ cT (22 + d) ++ cT 17 ++ cT 33 ++ dgs t ∨ T = [] ++ cT 29 ++ dgs n ++ cT 31 ++ cT (22 + d) ++ ([] ++ cT 32 ++ cT (22 + (d + 1))) ++ cT 33 ++ dgs t)) ∨
  (∃ n t, (1 ≤ n ∧ n ≤ 4) ∧ (1 ≤ t ∧ t ≤ 12) ∧ T = [] ++ cT 29 ++ dgs n ++ cT 34 ++ dgs t)
/-- what rule gives: a text of its own, or the constant of no letters -/
def RS (g : EG) (M M' : EM) (r : Nat) (q : Nat × Nat) (T : List Nat) : Prop := TS M M' r q T ∨ (q = (200 + 17, gS g 17) ∧ T = [] ∧ fr2 M M' r r)
theorem TS.cmp {M M1 M' : EM} {r : Nat} {q : Nat × Nat} {T : List Nat} (h : fr2 M M1 r r) (h' : TS M1 M' r q T) : TS M M' r q T := by
  obtain ⟨h1, h2, c, h3, h4, h5⟩ := h'
  have := h.1
  exact ⟨h.cmp h1, h2, c, h3, by omega, by omega⟩
set_option maxRecDepth 100000 in
theorem c_rule (hl0 : l.stackTraces = false) {M : EM} {r : Nat} (hr : r < mN M) : Ct l g sg_L_rule [lvR r] M (fun o M' => BX (∃ q T, o = .inl (some (.inr (.inr (.inr (.inr q))))) ∧ RuleT T ∧ RS g M M' r q T)) := by
  refine sem_ofF hl0 mt_L_rule ok_L_rule rfl (fun K hc hw => e_step rfl hc 160 [76, 121, 224, 268] ?_)
  have tg : ∀ i, i < 7 → 200 ≤ 200 + (22 + i) ∧ 200 + (22 + i) ≤ 234 := fun i hi => by omega
  have vp : ∀ i, i < 7 → vp_in (nI i) 7 := fun i hi => vp_in_nI hi (by decide)
  have hy : mN M ≤ mN M := Nat.le_refl _
  have f0 : fr2 M (sNew M 54) r r := fr2.rf.big (fr2.new (a := mN M)) hy hy
  have f1 : ∀ {X k v}, fr2 M X r r → fr2 M (sP X (mN M) k v) r r := fun h => h.big fr2.sP hy hy
  obtain ⟨M1, hM1⟩ : ∃ M1, M1 = sP (sP (sP (sP (sP (sP (sP (sNew M 54) (mN M) 0 (gS g 22)) (mN M) 1 (gS g 23)) (mN M) 2 (gS g 24)) (mN M) 3 (gS g 25)) (mN M) 4 (gS g 26)) (mN M) 5 (gS g 27)) (mN M) 6 (gS g 28) := ⟨_, rfl⟩
  have hF : fr2 M M1 r r := by rw [hM1]; exact f1 (f1 (f1 (f1 (f1 (f1 (f1 f0))))))
  have hD : dA g M1 (mN M) := by
    intro i hi
    rw [hM1]
    rcases (by omega : i = 0 ∨ i = 1 ∨ i = 2 ∨ i = 3 ∨ i = 4 ∨ i = 5 ∨ i = 6) with rfl | rfl | rfl | rfl | rfl | rfl | rfl <;> simp [mP_sP3]
  have hr1 : r < mN M1 := by have := hF.1; omega
  have hy1 : mN M < mN M1 := by rw [hM1]; exact Nat.lt_succ_self _
  have h76 : ∀ M2, fr2 M1 M2 r r → K 76 [some (lvR r), some (.inr (.inr (.inr (.inr (54, mN M))))), none] [] M2 1 7 := fun M2 hf => e_step rfl hc 160 [] (by
    refine ⟨⟨by decide, by decide⟩, ⟨by decide, by decide⟩, Ct.mono (kb_new hl0 hf hr1) ?_⟩
    rintro o M3 ⟨⟨rfl, hB⟩⟩
    refine ⟨⟨by decide, by decide⟩, Ct.mono (kb_appK hl0 hB (k := 29) (by decide) (by decide)) ?_⟩
    rintro o M4 ⟨⟨rfl, hB⟩⟩
    refine ⟨⟨by decide, by decide⟩, Ct.mono (kb_next hl0 hB) ?_⟩
    rintro o M5 ⟨⟨hN, hB, k, hk, rfl⟩⟩
    have e1 : 1 + (nI k - nI k / 9 * 9) = nI (1 + k % 9) := dr_rem1 hk (d := 9) (by decide) (by decide)
    refine ⟨hN, (by decide : ¬ (9 : Int32) = 0), ⟨by decide, by decide⟩, Ct.mono (show Ct l g sg_J4_append_bf812 [lvS (mN M2), .inl (1 + (nI k - nI k / 9 * 9))] M5 _ from by rw [e1]; exact kb_appI hl0 hB (by omega) (by decide)) ?_⟩
    rintro o M6 ⟨⟨rfl, hB⟩⟩
    refine ⟨⟨by decide, by decide⟩, Ct.mono (kb_appK hl0 hB (k := 30) (by decide) (by decide)) ?_⟩
    rintro o M7 ⟨⟨rfl, hB⟩⟩
    refine ⟨⟨by decide, by decide⟩, Ct.mono (kb_next hl0 hB) ?_⟩
    rintro o M8 ⟨⟨hN, hB, k', hk', rfl⟩⟩
    have e2 : 1 + (nI k' - nI k' / 12 * 12) = nI (1 + k' % 12) := dr_rem1 hk' (d := 12) (by decide) (by decide)
    refine ⟨hN, (by decide : ¬ (12 : Int32) = 0), ⟨by decide, by decide⟩, Ct.mono (show Ct l g sg_J4_append_bf812 [lvS (mN M2), .inl (1 + (nI k' - nI k' / 12 * 12))] M8 _ from by rw [e2]; exact kb_appI hl0 hB (by omega) (by decide)) ?_⟩
    rintro o M9 ⟨⟨rfl, hB⟩⟩
    refine ⟨⟨by decide, by decide⟩, Ct.mono (kb_toS hl0 hB) ?_⟩
    rintro o M10 ⟨⟨rfl, hT⟩⟩
    exact ⟨by decide, by decide, ⟨⟨_, _, rfl, Or.inr (Or.inl ⟨_, _, ⟨by omega, by omega⟩, ⟨by omega, by omega⟩, rfl⟩), Or.inl (hT.cmp hF)⟩⟩⟩)
  have h224 : ∀ M2, fr2 M1 M2 r r → K 224 [some (lvR r), some (.inr (.inr (.inr (.inr (54, mN M))))), none] [] M2 1 7 := fun M2 hf => e_step rfl hc 160 [] (by
    refine ⟨⟨by decide, by decide⟩, ⟨by decide, by decide⟩, Ct.mono (kb_new hl0 hf hr1) ?_⟩
    rintro o M3 ⟨⟨rfl, hB⟩⟩
    refine ⟨⟨by decide, by decide⟩, Ct.mono (kb_appK hl0 hB (k := 29) (by decide) (by decide)) ?_⟩
    rintro o M4 ⟨⟨rfl, hB⟩⟩
    refine ⟨⟨by decide, by decide⟩, Ct.mono (kb_next hl0 hB) ?_⟩
    rintro o M5 ⟨⟨hN, hB, k, hk, rfl⟩⟩
    have e1 : 1 + (nI k - nI k / 4 * 4) = nI (1 + k % 4) := dr_rem1 hk (d := 4) (by decide) (by decide)
    refine ⟨hN, (by decide : ¬ (4 : Int32) = 0), ⟨by decide, by decide⟩, Ct.mono (show Ct l g sg_J4_append_bf812 [lvS (mN M2), .inl (1 + (nI k - nI k / 4 * 4))] M5 _ from by rw [e1]; exact kb_appI hl0 hB (by omega) (by decide)) ?_⟩
    rintro o M6 ⟨⟨rfl, hB⟩⟩
    refine ⟨⟨by decide, by decide⟩, Ct.mono (kb_appK hl0 hB (k := 34) (by decide) (by decide)) ?_⟩
    rintro o M7 ⟨⟨rfl, hB⟩⟩
    refine ⟨⟨by decide, by decide⟩, Ct.mono (kb_next hl0 hB) ?_⟩
    rintro o M8 ⟨⟨hN, hB, k', hk', rfl⟩⟩
    have e2 : 1 + (nI k' - nI k' / 12 * 12) = nI (1 + k' % 12) := dr_rem1 hk' (d := 12) (by decide) (by decide)
    refine ⟨hN, (by decide : ¬ (12 : Int32) = 0), ⟨by decide, by decide⟩, Ct.mono (show Ct l g sg_J4_append_bf812 [lvS (mN M2), .inl (1 + (nI k' - nI k' / 12 * 12))] M8 _ from by rw [e2]; exact kb_appI hl0 hB (by omega) (by decide)) ?_⟩
    rintro o M9 ⟨⟨rfl, hB⟩⟩
    refine ⟨⟨by decide, by decide⟩, Ct.mono (kb_toS hl0 hB) ?_⟩
    rintro o M10 ⟨⟨rfl, hT⟩⟩
    exact ⟨by decide, by decide, ⟨⟨_, _, rfl, Or.inr (Or.inr (Or.inr ⟨_, _, ⟨by omega, by omega⟩, ⟨by omega, by omega⟩, rfl⟩)), Or.inl (hT.cmp hF)⟩⟩⟩)
  have h200 : ∀ M2 a q T' nc ns d, nc ≤ 24 → ns ≤ 60000 → Ct l g sg_J4_append_15ec4 [lvS a, .inr (.inr (.inr (.inr q)))] M2 (fun o M' => BX (o = .inl (some (lvS a)) ∧ BL M1 M' r a T' 200)) → (∀ t, 1 ≤ t → t ≤ 12 → RuleT (T' ++ cT 33 ++ dgs t)) → K 200 [some (lvR r), some (.inr (.inr (.inr (.inr (54, mN M))))), some (.inl (nI d))] [.inr (.inr (.inr (.inr q))), lvS a] M2 nc ns := fun M2 a q T' nc ns d hnc hns hA hRT => e_step rfl hc 160 [] (by
    refine ⟨⟨by show nc + 1 ≤ 34; omega, by show ns + 4096 ≤ 86311; omega⟩, Ct.mono hA ?_⟩
    rintro o M3 ⟨⟨rfl, hB⟩⟩
    refine ⟨⟨by show nc + 1 + 1 ≤ 34; omega, by show ns + 4096 + 4096 ≤ 86311; omega⟩, Ct.mono (kb_appK hl0 hB (k := 33) (by decide) (by decide)) ?_⟩
    rintro o M4 ⟨⟨rfl, hB⟩⟩
    refine ⟨⟨by show nc + 1 + 1 + 0 ≤ 34; omega, by show ns + 4096 + 4096 + 0 ≤ 86311; omega⟩, Ct.mono (kb_next hl0 hB) ?_⟩
    rintro o M5 ⟨⟨hN, hB, k', hk', rfl⟩⟩
    have e2 : 1 + (nI k' - nI k' / 12 * 12) = nI (1 + k' % 12) := dr_rem1 hk' (d := 12) (by decide) (by decide)
    refine ⟨hN, (by decide : ¬ (12 : Int32) = 0), ⟨by show nc + 1 + 1 + 1 ≤ 34; omega, by show ns + 4096 + 4096 + 4096 ≤ 86311; omega⟩, Ct.mono (show Ct l g sg_J4_append_bf812 [lvS a, .inl (1 + (nI k' - nI k' / 12 * 12))] M5 _ from by rw [e2]; exact kb_appI hl0 hB (by omega) (by decide)) ?_⟩
    rintro o M6 ⟨⟨rfl, hB⟩⟩
    refine ⟨⟨by show nc + 1 + 1 + 1 + 2 ≤ 34; omega, by show ns + 4096 + 4096 + 4096 + 4100 ≤ 86311; omega⟩, Ct.mono (kb_toS hl0 hB) ?_⟩
    rintro o M7 ⟨⟨rfl, hT⟩⟩
    exact ⟨by show nc + 1 + 1 + 1 + 2 ≤ 34; omega, by show ns + 4096 + 4096 + 4096 + 4100 ≤ 86311; omega, ⟨⟨_, _, rfl, hRT _ (by omega) (by omega), Or.inl (hT.cmp hF)⟩⟩⟩)
  have hday : ∀ M2 i, fr2 M1 M2 r r → i < 7 → mP M2 (mN M) (nI i).toNatClampNeg = some (gS g (22 + i)) := fun M2 i hf hi => by
    rw [nI_clamp (by omega), ((hf.2.2 (mN M) hy1).2 (by omega) (by omega)).2.2]
    exact hD i hi
  have h129 : ∀ M2 d, d < 6 → fr2 M1 M2 r r → K 129 [some (lvR r), some (.inr (.inr (.inr (.inr (54, mN M))))), some (.inl (nI d))] [] M2 1 7 := fun M2 d hd hf => e_step rfl hc 160 [200] (by
    refine ⟨⟨by decide, by decide⟩, ⟨by decide, by decide⟩, Ct.mono (kb_new hl0 hf hr1) ?_⟩
    rintro o M3 ⟨⟨rfl, hB⟩⟩
    refine ⟨⟨by decide, by decide⟩, Ct.mono (kb_appK hl0 hB (k := 29) (by decide) (by decide)) ?_⟩
    rintro o M4 ⟨⟨rfl, hB⟩⟩
    refine ⟨⟨by decide, by decide⟩, Ct.mono (kb_next hl0 hB) ?_⟩
    rintro o M5 ⟨⟨hN, hB, k, hk, rfl⟩⟩
    have e1 : 1 + (nI k - nI k / 3 * 3) = nI (1 + k % 3) := dr_rem1 hk (d := 3) (by decide) (by decide)
    refine ⟨hN, (by decide : ¬ (3 : Int32) = 0), ⟨by decide, by decide⟩, Ct.mono (show Ct l g sg_J4_append_bf812 [lvS (mN M2), .inl (1 + (nI k - nI k / 3 * 3))] M5 _ from by rw [e1]; exact kb_appI hl0 hB (by omega) (by decide)) ?_⟩
    rintro o M6 ⟨⟨rfl, hB⟩⟩
    refine ⟨⟨by decide, by decide⟩, Ct.mono (kb_appK hl0 hB (k := 31) (by decide) (by decide)) ?_⟩
    rintro o M7 ⟨⟨rfl, hB⟩⟩
    refine ⟨rfl, vp d (by omega), 22 + d, by omega, hday M7 d hB.1.2.2.1 (by omega), ⟨by decide, by decide⟩, Ct.mono (kb_appK hl0 hB (k := 22 + d) (by omega) (by decide)) ?_⟩
    rintro o M8 ⟨⟨rfl, hB⟩⟩
    refine ⟨⟨by decide, by decide⟩, Ct.mono (kb_next hl0 hB) ?_⟩
    rintro o M9 ⟨⟨hN, hB, k', hk', rfl⟩⟩
    have hr9 : r < mN M9 := Nat.lt_of_lt_of_le hr1 hB.1.2.2.1.1
    refine ⟨hN, (by decide : ¬ (2 : Int32) = 0), fun h9 => ?_, fun h9 => ?_⟩
    · refine ⟨⟨by decide, by decide⟩, ⟨by decide, by decide⟩, Ct.mono (kb_new hl0 (M0 := M9) fr2.rf hr9) ?_⟩
      rintro o M10 ⟨⟨rfl, hI⟩⟩
      refine ⟨⟨by decide, by decide⟩, Ct.mono (kb_appK hl0 hI (k := 32) (by decide) (by decide)) ?_⟩
      rintro o M11 ⟨⟨rfl, hI⟩⟩
      have e5 : nI d + 1 = nI (d + 1) := nI_add d 1
      have hf11 : fr2 M1 M11 r r := hB.1.2.2.1.cmp hI.1.2.2.1
      refine ⟨rfl, (show vp_in (nI d + 1) 7 from by rw [e5]; exact vp (d + 1) (by omega)), 22 + (d + 1), by omega, (show mP M11 (mN M) (nI d + 1).toNatClampNeg = _ from by rw [e5]; exact hday M11 (d + 1) hf11 (by omega)), ⟨by decide, by decide⟩, Ct.mono (kb_appK hl0 hI (k := 22 + (d + 1)) (by omega) (by decide)) ?_⟩
      rintro o M12 ⟨⟨rfl, hI⟩⟩
      refine ⟨⟨by decide, by decide⟩, Ct.mono (kb_toS hl0 hI) ?_⟩
      rintro o M13 ⟨⟨rfl, hT⟩⟩
      obtain ⟨t1, t2, c, t3, t4, t5⟩ := hT
      refine h200 M13 (mN M2) _ _ _ _ d (by decide) (by decide) ((k_appT hl0 hB.1 t1 t3 ⟨t4, t5⟩ (Nat.le_trans (Nat.add_le_add hB.2 hI.2) (by decide))).mono ?_) (fun t u1 u2 => Or.inr (Or.inr (Or.inl ⟨1 + k % 3, t, d, ⟨by omega, by omega⟩, ⟨u1, u2⟩, hd, Or.inr rfl⟩)))
      rintro o M14 ⟨⟨rfl, h14⟩⟩
      exact ⟨⟨rfl, h14, by rw [List.length_append]; exact Nat.le_trans (Nat.add_le_add hB.2 hI.2) (by decide)⟩⟩
    · refine h200 M9 (mN M2) _ _ _ _ d (by decide) (by decide) ((kb_appK hl0 hB (k := 17) (by decide) (by decide)).mono ?_) (fun t u1 u2 => Or.inr (Or.inr (Or.inl ⟨1 + k % 3, t, d, ⟨by omega, by omega⟩, ⟨u1, u2⟩, hd, Or.inl rfl⟩)))
      rintro o M14 ⟨⟨rfl, h14⟩⟩
      exact ⟨⟨rfl, h14.1, Nat.le_trans h14.2 (by decide)⟩⟩)
  have h121 : ∀ M2, fr2 M1 M2 r r → K 121 [some (lvR r), some (.inr (.inr (.inr (.inr (54, mN M))))), none] [] M2 1 7 := fun M2 hf => e_step rfl hc 160 [129] (by
    refine ⟨⟨by decide, by decide⟩, Ct.mono (k_nextF hl0 hf) ?_⟩
    rintro o M3 ⟨⟨hN, hf3, k, hk, rfl⟩⟩
    have e6 : nI k - nI k / 6 * 6 = nI (k % 6) := dr_rem hk (d := 6) (by decide) (by decide)
    refine ⟨hN, (by decide : ¬ (6 : Int32) = 0), ?_⟩
    show K 129 [some (lvR r), some (.inr (.inr (.inr (.inr (54, mN M))))), some (.inl (nI k - nI k / 6 * 6))] [] M3 1 7
    rw [e6]
    exact h129 M3 _ (by omega) hf3)
  have h268 : ∀ M2, fr2 M1 M2 r r → K 268 [some (lvR r), some (.inr (.inr (.inr (.inr (54, mN M))))), none] [] M2 1 7 := fun M2 hf => e_step rfl hc 160 [] (by
    exact ⟨by decide, by decide, ⟨⟨_, [], rfl, Or.inl rfl, Or.inr ⟨rfl, rfl, hF.cmp hf⟩⟩⟩⟩)
  refine ⟨⟨by decide, by decide⟩, rfl, tg 0 (by decide), rfl, vp 0 (by decide), tg 1 (by decide), rfl, vp 1 (by decide), tg 2 (by decide), rfl, vp 2 (by decide), tg 3 (by decide), rfl, vp 3 (by decide), tg 4 (by decide), rfl, vp 4 (by decide), tg 5 (by decide), rfl, vp 5 (by decide), tg 6 (by decide), rfl, vp 6 (by decide), ⟨by decide, by decide⟩, ?_⟩
  subst hM1
  refine Ct.mono (k_nextF hl0 fr2.rf) ?_
  rintro o M2 ⟨⟨hN, hf, k, hk, rfl⟩⟩
  exact ⟨hN, (by decide : ¬ (5 : Int32) = 0), fun _ => h76 M2 hf, fun _ => ⟨fun _ => h121 M2 hf, fun _ => ⟨fun _ => h224 M2 hf, fun _ _ => h268 M2 hf⟩⟩⟩
end
