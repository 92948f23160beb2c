/-! BUILDERS AND TEXTS, 2: letters are appended. -/
section
variable {l : Launch} {g : EG}
theorem j_infl (hl0 : l.stackTraces = false) {M : EM} {a b n : Nat} {q : Nat × Nat} {T S : List Nat} (h : SBd M a b n T) (ht : Txt M q S a b) : Ct l g sg_J5_inflateIfNeededFor_a7421 [.inr (.inr (.inr (.inr (57, a)))), .inr (.inr (.inr (.inr q)))] M (fun o M' => M' = M ∧ o = .inl none) := by
  refine sem_ofF hl0 mt_J5_inflateIfNeededFor_a7421 oe_J5_inflateIfNeededFor_a7421 rfl (fun K hc hw => e_step rfl hc 30 [] ?_)
  have hq : q.1 = 56 ∨ (200 ≤ q.1 ∧ q.1 ≤ 234) := ht.2.imp (fun z => z.1) (fun z => z.1)
  refine ⟨fun h => absurd h (by decide), fun _ => ⟨hq, ⟨Nat.zero_le _, Nat.zero_le _⟩, Ct.mono (j_coder hl0 ht) ?_⟩⟩
  rintro o M' ⟨rfl, rfl⟩
  refine ⟨fun _ => ⟨Nat.zero_le _, Nat.zero_le _, rfl, rfl⟩, fun h9 => ?_⟩
  exact absurd h.1.1 h9
theorem Txt.fr {M M' : EM} {q : Nat × Nat} {S : List Nat} {a b b' : Nat} (h : Txt M q S a b) (f : fr2 M M' a b) (hb : b' = b ∨ mN M ≤ b') : Txt M' q S a b' := by
  refine ⟨h.1, ?_⟩
  rcases h.2 with ⟨hq, c, ⟨h1, h2, h3, h4⟩, h5, h6, h7, h8, h9, h10, h11, h12⟩ | h2
  · obtain ⟨t1, f1⟩ := f.2.2 c h7
    obtain ⟨t2, f2⟩ := f.2.2 q.2 h10
    obtain ⟨i1, -, -⟩ := f1 h8 h9
    obtain ⟨i2, -, p2⟩ := f2 h11 h12
    have hn := f.1
    exact Or.inl ⟨hq, c, ⟨h1, by rw [p2]; exact h2, f.2.1 c h3, t1.trans h4⟩, by rw [i2]; exact h5, fun j hj => by rw [i1]; exact h6 j hj, by omega, h8, by omega, by omega, h11, by omega⟩
  · exact Or.inr h2
theorem e_lat2 : ∀ k, k < 35 → ∀ j, j < e_len.getD k 0 → fits .byte (.int ((e_byt.getD k []).getD j 0)) = true := by decide +kernel
theorem j_getBytes (hl0 : l.stackTraces = false) {M : EM} {a b n k : Nat} {q : Nat × Nat} {S : List Nat} (ht : Txt M q S a b) (hk : k + S.length ≤ n) (hn : n ≤ 2010) (hf : sb_Fit (mI M b)) : Ct l g sg_J0_getBytes_840e7 [.inr (.inr (.inr (.inr q))), .inr (.inr (.inr (.inr (2000 + n, b)))), .inl (nI k), .inl 0] M (fun o M' => BX (o = .inl none ∧ ∃ v, M' = sIr M b v ∧ (∀ j, j < k → v j = mI M b j) ∧ (∀ j, j < S.length → v (k + j) = nI (S.getD j 0)) ∧ sb_Fit v)) := by
  refine sem_ofF hl0 mt_J0_getBytes_840e7 oe_J0_getBytes_840e7 rfl (fun K hc hw => e_step rfl hc 40 [] ?_)
  have hq : q.1 = 56 ∨ (200 ≤ q.1 ∧ q.1 ≤ 234) := ht.2.imp (fun z => z.1) (fun z => z.1)
  have z0 : (0 : Int32).toNatClampNeg = 0 := rfl
  have ek : nI k <<< ((0 : Int32) &&& 31) = nI k := sb_shl _ rfl
  have hSf : ∀ j, j < S.length → fits .byte (.int (nI (S.getD j 0))) = true := fun j hj => (nb_f _ (ht.1 _ (by rw [List.getD_eq_getElem?_getD, List.getElem?_eq_getElem hj]; exact List.getElem_mem hj))).1
  refine ⟨hq, ⟨Nat.zero_le _, Nat.zero_le _⟩, Ct.mono (j_coder hl0 ht) ?_⟩
  rintro o M' ⟨rfl, rfl⟩
  refine ⟨fun h9 => absurd rfl h9, fun _ => ?_⟩
  have fin : ∀ (q0 : Nat × Nat), (2000 ≤ q0.1 ∨ (300 ≤ q0.1 ∧ q0.1 ≤ 334)) → e_byn q0 = S.length → (∀ j, j < S.length → e_bys M' q0 j = nI (S.getD j 0)) →
      ((2000 ≤ 2000 + n ∧ (2000 ≤ q0.1 ∨ (300 ≤ q0.1 ∧ q0.1 ≤ 334))) ∧ (¬ (0 : Int32) < 0 ∧ ¬ nI k <<< ((0 : Int32) &&& 31) < 0 ∧ ¬ nI S.length < 0) ∧ (0 : Int32).toNatClampNeg + (nI S.length).toNatClampNeg ≤ e_byn q0 ∧ (nI k <<< ((0 : Int32) &&& 31)).toNatClampNeg + (nI S.length).toNatClampNeg ≤ 2000 + n - 2000 ∧ ∀ i, i < (nI S.length).toNatClampNeg → fits .byte (.int (e_bys M' q0 ((0 : Int32).toNatClampNeg + i))) = true) ∧
      BX ((Sum.inl none : EO) = .inl none ∧ ∃ v, sIr M' b (va_cpy (e_bys M' q0) (mI M' b) (0 : Int32).toNatClampNeg (nI k <<< ((0 : Int32) &&& 31)).toNatClampNeg (nI S.length).toNatClampNeg) = sIr M' b v ∧ (∀ j, j < k → v j = mI M' b j) ∧ (∀ j, j < S.length → v (k + j) = nI (S.getD j 0)) ∧ sb_Fit v) := by
    intro q0 h1 h2 h3
    have cs : (nI S.length).toNatClampNeg = S.length := nI_clamp (by omega)
    have ck : (nI k).toNatClampNeg = k := nI_clamp (by omega)
    rw [ek, cs, ck, z0]
    refine ⟨⟨⟨by omega, h1⟩, ⟨by decide, nI_pos (by omega), nI_pos (by omega)⟩, by omega, by omega, fun i hi => by rw [Nat.zero_add, h3 i hi]; exact hSf i hi⟩, ⟨⟨rfl, _, rfl, fun j hj => ?_, fun j hj => ?_, fun j => ?_⟩⟩⟩
    · unfold va_cpy; rw [if_neg (by omega)]
    · unfold va_cpy; rw [if_pos (by omega), show 0 + (k + j - k) = j by omega]; exact h3 j hj
    · unfold va_cpy
      split
      · rw [h3 _ (by omega)]; exact hSf _ (by omega)
      · exact hf j
  rcases id ht.2 with ⟨hq1, c, h0, h1, h2, -⟩ | ⟨hq1, hn1, hb1⟩
  · refine Or.inl ⟨c, S.length, ⟨hq1, h0⟩, Or.inl ⟨c, S.length, ⟨hq1, h0⟩, Or.inl ⟨S.length, rfl, ?_⟩⟩⟩
    obtain ⟨f1, f2⟩ := fin (2000 + S.length, c) (Or.inl (by show 2000 ≤ 2000 + S.length; omega)) e_byn_o (fun j hj => by rw [e_bys_o]; exact h2 j hj)
    exact ⟨f1, Nat.zero_le _, Nat.zero_le _, f2⟩
  · refine Or.inr ⟨hq1, fun a1 => Or.inr ⟨hq1, fun a2 => Or.inr ⟨⟨by show 300 ≤ q.1 + 100; omega, by show q.1 + 100 ≤ 334; omega⟩, ?_⟩⟩⟩
    have e9 : q.1 + 100 - 300 = q.1 - 200 := by omega
    have el : e_len.getD (q.1 + 100 - 300) 0 = S.length := by rw [e9]; exact hn1
    obtain ⟨f1, f2⟩ := fin (q.1 + 100, a1) (Or.inr ⟨by show 300 ≤ q.1 + 100; omega, by show q.1 + 100 ≤ 334; omega⟩) (by unfold e_byn; rw [if_neg (by show ¬ 2000 ≤ q.1 + 100; omega)]; exact el) (fun j hj => by unfold e_bys; rw [if_neg (by show ¬ 2000 ≤ q.1 + 100; omega)]; show (e_byt.getD (q.1 + 100 - 300) []).getD j 0 = _; rw [e9]; exact hb1 j hj)
    rw [← el] at f1 f2
    exact ⟨f1, Nat.zero_le _, Nat.zero_le _, by rw [el] at f2 ⊢; exact f2⟩
theorem j_put (hl0 : l.stackTraces = false) {M : EM} {a b n : Nat} {q : Nat × Nat} {T S : List Nat} (h : SBd M a b n T) (ht : Txt M q S a b) (hk : T.length + S.length ≤ n) : Ct l g sg_J5_putStringAt_47b60 [.inr (.inr (.inr (.inr (57, a)))), .inl (nI T.length), .inr (.inr (.inr (.inr q)))] M (fun o M' => BX (o = .inl none ∧ ∃ v, M' = sIr M b v ∧ (∀ j, j < T.length → v j = mI M b j) ∧ (∀ j, j < S.length → v (T.length + j) = nI (S.getD j 0)) ∧ sb_Fit v)) := by
  refine sem_ofF hl0 mt_J5_putStringAt_47b60 oe_J5_putStringAt_47b60 rfl (fun K hc hw => e_step rfl hc 30 [] ?_)
  have hq : q.1 = 56 ∨ (200 ≤ q.1 ∧ q.1 ≤ 234) := ht.2.imp (fun z => z.1) (fun z => z.1)
  refine ⟨rfl, ⟨Nat.zero_le _, Nat.zero_le _⟩, Ct.mono (j_infl hl0 h ht) ?_⟩
  rintro o M' ⟨rfl, rfl⟩
  obtain ⟨⟨h1, h2⟩, h3, h4, h5, h6⟩ := id h
  refine ⟨b, n, ⟨rfl, h3⟩, hq, ⟨Nat.zero_le _, Nat.zero_le _⟩, ?_⟩
  refine Ct.mono (show Ct l g sg_J0_getBytes_840e7 [.inr (.inr (.inr (.inr q))), .inr (.inr (.inr (.inr (2000 + n, b)))), .inl (nI T.length), .inl (mI M' a 1)] M' _ from by rw [h1]; exact j_getBytes hl0 ht hk h4.2 h5.2.2) ?_
  rintro o M2 ⟨⟨rfl, hv⟩⟩
  exact ⟨Nat.zero_le _, Nat.zero_le _, ⟨⟨rfl, hv⟩⟩⟩
theorem getD_app1 {T S : List Nat} {j : Nat} (h : j < T.length) : (T ++ S).getD j 0 = T.getD j 0 := by
  rw [List.getD_eq_getElem?_getD, List.getD_eq_getElem?_getD, List.getElem?_append_left h]
theorem getD_app2 {T S : List Nat} {j : Nat} : (T ++ S).getD (T.length + j) 0 = S.getD j 0 := by
  rw [List.getD_eq_getElem?_getD, List.getD_eq_getElem?_getD, List.getElem?_append_right (by omega), Nat.add_sub_cancel_left]
/-- new letters lie behind the old ones -/
theorem SBd.put {M M' : EM} {a b n : Nat} {T S : List Nat} {v : Nat → Int32} (h : SBd M a b n T) (hS : tx_ok S) (hk : T.length + S.length ≤ n) (h1 : ∀ j, j < T.length → v j = mI M b j) (h2 : ∀ j, j < S.length → v (T.length + j) = nI (S.getD j 0)) (h3 : sb_Fit v)
    (e1 : mI M' b = v) (e2 : mI M' a 1 = mI M a 1) (e3 : mI M' a 3 = nI (T.length + S.length)) (e4 : mP M' a = mP M a) (e5 : mT M' b = mT M b) (e6 : mA M' = mA M) (e7 : mN M' = mN M) : SBd M' a b n (T ++ S) := by
  obtain ⟨⟨a1, a2⟩, ⟨a3, a4, a5, a6⟩, ⟨a7, a8⟩, ⟨a9, a10, a11⟩, a12, a13, a14⟩ := h
  refine ⟨⟨e2.trans a1, by rw [e3, List.length_append]⟩, ⟨a3, by show mP M' a 0 = _; rw [e4]; exact a4, by rw [e6]; exact a5, e5.trans a6⟩, ⟨by rw [List.length_append]; exact hk, a8⟩, ⟨fun j hj => ?_, fun c hc => ?_, by rw [e1]; exact h3⟩, by rw [e7]; exact a12, by rw [e7]; exact a13, a14⟩
  · rw [e1]
    by_cases hl : j < T.length
    · rw [getD_app1 hl, h1 j hl]; exact a9 j hl
    · obtain ⟨i, rfl⟩ : ∃ i, j = T.length + i := ⟨j - T.length, by omega⟩
      rw [List.length_append] at hj
      rw [getD_app2]; exact h2 i (by omega)
  · rcases List.mem_append.mp hc with hc | hc
    · exact a10 c hc
    · exact hS c hc
theorem fr2.mk2 {M M' : EM} {a b : Nat} (e1 : mT M' = mT M) (e2 : mA M' = mA M) (e3 : mN M' = mN M) (e4 : ∀ c, ¬ c = a → ¬ c = b → mI M' c = mI M c ∧ mL M' c = mL M c ∧ mP M' c = mP M c) : fr2 M M' a b :=
  ⟨by rw [e3]; exact Nat.le_refl _, fun c hc => by rw [e2]; exact hc, fun c _ => ⟨by rw [e1], fun h1 h2 => e4 c h1 h2⟩⟩
/-- what appending leaves -/
def AP (M : EM) (a b : Nat) (T : List Nat) (M' : EM) : Prop := ∃ b' n', SBd M' a b' n' T ∧ fr2 M M' a b ∧ (b' = b ∨ mN M ≤ b') ∧ mN M' ≤ mN M + 1
theorem j_appS (hl0 : l.stackTraces = false) {M : EM} {a b n : Nat} {q : Nat × Nat} {T S : List Nat} (h : SBd M a b n T) (ht : Txt M q S a b) (hk : T.length + S.length ≤ 1000) : Ct l g sg_J5_append_cf1ce [.inr (.inr (.inr (.inr (57, a)))), .inr (.inr (.inr (.inr q)))] M (fun o M' => BX (o = .inl (some (.inr (.inr (.inr (.inr (57, a)))))) ∧ AP M a b (T ++ S) M')) := by
  refine sem_ofF hl0 mt_J5_append_cf1ce oe_J5_append_cf1ce rfl (fun K hc hw => e_step rfl hc 50 [] ?_)
  have hq : q.1 = 56 ∨ (200 ≤ q.1 ∧ q.1 ≤ 234) := ht.2.imp (fun z => z.1) (fun z => z.1)
  refine ⟨hq, ⟨Nat.zero_le _, Nat.zero_le _⟩, Ct.mono (j_len hl0 ht) ?_⟩
  rintro o M' ⟨rfl, rfl⟩
  have e3 : mI M' a 3 + nI S.length = nI (T.length + S.length) := by rw [h.1.2]; exact nI_add _ _
  refine ⟨rfl, ⟨by show 0 + 0 + 1 ≤ 1; omega, by show 0 + 0 + 4096 ≤ 4096; omega⟩, ?_⟩
  refine Ct.mono (show Ct l g sg_J5_ensureCapacityInternal_d00df [.inr (.inr (.inr (.inr (57, a)))), .inl (mI M' a 3 + nI S.length)] M' _ from by rw [e3]; exact j_ensure hl0 h (Nat.le_add_right _ _) hk) ?_
  rintro o M1 ⟨⟨rfl, b', n', hS1, hk1, hf1, hb1, hN1⟩⟩
  have ht1 := ht.fr hf1 hb1
  have c3 : mI M1 a 3 = nI T.length := hS1.1.2
  refine ⟨rfl, ⟨by show 0 + 0 + 1 + 0 ≤ 1; omega, by show 0 + 0 + 4096 + 0 ≤ 4096; omega⟩, ?_⟩
  refine Ct.mono (show Ct l g sg_J5_putStringAt_47b60 [.inr (.inr (.inr (.inr (57, a)))), .inl (mI M1 a 3), .inr (.inr (.inr (.inr q)))] M1 _ from by rw [c3]; exact j_put hl0 hS1 ht1 (by omega)) ?_
  rintro o M2 ⟨⟨rfl, v, rfl, v1, v2, v3⟩⟩
  have hab : ¬ a = b' := hS1.2.2.2.2.2.2
  refine ⟨trivial, by show 0 + 0 + 1 + 0 ≤ 1; omega, by show 0 + 0 + 4096 + 0 ≤ 4096; omega, ⟨⟨rfl, b', n', ?_, ?_, hb1, hN1⟩⟩⟩
  · refine hS1.put ht.1 (by omega) v1 v2 v3 ?_ ?_ ?_ rfl rfl rfl rfl
    · funext j
      rw [mI_sI2, if_neg (fun z => hab z.1.symm), mI_sIr, if_pos rfl]
    · rw [mI_sI2, if_neg (fun z => absurd z.2 (by decide)), mI_sIr, if_neg hab]
    · rw [mI_sI2, if_pos ⟨rfl, rfl⟩]
      show mI (sIr M1 b' v) a 3 + nI S.length = _
      rw [mI_sIr, if_neg hab, c3]
      exact nI_add _ _
  · refine hf1.tr (fr2.mk2 (b := b') rfl rfl rfl (fun c ca cb => ⟨?_, rfl, rfl⟩)) hb1
    funext j
    rw [mI_sI2, if_neg (fun z => ca z.1), mI_sIr, if_neg cb]
theorem j_appSB (hl0 : l.stackTraces = false) {M : EM} {a b n : Nat} {q : Nat × Nat} {T S : List Nat} (h : SBd M a b n T) (ht : Txt M q S a b) (hk : T.length + S.length ≤ 1000) : Ct l g sg_J4_append_15ec4 [.inr (.inr (.inr (.inr (57, a)))), .inr (.inr (.inr (.inr q)))] M (fun o M' => BX (o = .inl (some (.inr (.inr (.inr (.inr (57, a)))))) ∧ AP M a b (T ++ S) M')) := by
  refine sem_ofF hl0 mt_J4_append_15ec4 oe_J4_append_15ec4 rfl (fun K hc hw => e_step rfl hc 20 [] ?_)
  refine ⟨rfl, ⟨by show 0 + 1 ≤ 1; omega, by show 0 + 4096 ≤ 4096; omega⟩, Ct.mono (j_appS hl0 h ht hk) ?_⟩
  rintro o M' ⟨⟨rfl, hA⟩⟩
  exact ⟨by show 0 + 1 ≤ 1; omega, by show 0 + 4096 ≤ 4096; omega, ⟨⟨rfl, hA⟩⟩⟩
theorem j_appSC (hl0 : l.stackTraces = false) {M : EM} {a b n : Nat} {q : Nat × Nat} {T S : List Nat} (h : SBd M a b n T) (ht : Txt M q S a b) (hk : T.length + S.length ≤ 1000) : Ct l g sg_J4_append_cf1ce [.inr (.inr (.inr (.inr (57, a)))), .inr (.inr (.inr (.inr q)))] M (fun o M' => BX (o = .inl (some (.inr (.inr (.inr (.inr (57, a)))))) ∧ AP M a b (T ++ S) M')) := by
  refine sem_ofF hl0 mt_J4_append_cf1ce oe_J4_append_cf1ce rfl (fun K hc hw => e_step rfl hc 20 [] ?_)
  refine Ct.mono (j_appSB hl0 h ht hk) ?_
  rintro o M' ⟨⟨rfl, hA⟩⟩
  exact ⟨by show 0 + 1 ≤ 1; omega, by show 0 + 4096 ≤ 4096; omega, ⟨⟨rfl, hA⟩⟩⟩
theorem j_can (hl0 : l.stackTraces = false) {M : EM} {c : Nat} (hc : c < 128) : Ct l g sg_J1_canEncode_fc78d [.inl (nI c)] M (fun o M' => M' = M ∧ o = .inl (some (.inl 1))) := by
  refine sem_ofF hl0 mt_J1_canEncode_fc78d oe_J1_canEncode_fc78d rfl (fun K hc hw => e_step rfl hc 20 [] ?_)
  refine ⟨fun h => ?_, fun _ => ⟨⟨by decide, by decide⟩, Nat.zero_le _, Nat.zero_le _, rfl, rfl⟩⟩
  exact absurd (show nI 255 < nI c from h) (nI_nlt (by omega) (by omega))
theorem j_appC (hl0 : l.stackTraces = false) {M : EM} {a b n c : Nat} {T : List Nat} (h : SBd M a b n T) (hc8 : c < 128) (hk : T.length + 1 ≤ 1000) : Ct l g sg_J5_append_3fe6f [.inr (.inr (.inr (.inr (57, a)))), .inl (nI c)] M (fun o M' => BX (o = .inl (some (.inr (.inr (.inr (.inr (57, a)))))) ∧ AP M a b (T ++ [c]) M')) := by
  refine sem_ofF hl0 mt_J5_append_3fe6f oe_J5_append_3fe6f rfl (fun K hc hw => e_step rfl hc 60 [] ?_)
  have e3 : mI M a 3 + 1 = nI (T.length + 1) := by rw [h.1.2]; exact nI_add _ 1
  refine ⟨rfl, ⟨by show 0 + 1 ≤ 1; omega, by show 0 + 4096 ≤ 4096; omega⟩, ?_⟩
  refine Ct.mono (show Ct l g sg_J5_ensureCapacityInternal_d00df [.inr (.inr (.inr (.inr (57, a)))), .inl (mI M a 3 + 1)] M _ from by rw [e3]; exact j_ensure hl0 h (Nat.le_add_right _ _) hk) ?_
  rintro o M1 ⟨⟨rfl, b', n', hS1, hk1, hf1, hb1, hN1⟩⟩
  have c3 : mI M1 a 3 = nI T.length := hS1.1.2
  have hab : ¬ a = b' := hS1.2.2.2.2.2.2
  refine ⟨rfl, ⟨by show 0 + 1 + 0 ≤ 1; omega, by show 0 + 4096 + 0 ≤ 4096; omega⟩, Ct.mono (j_lat hl0 hS1.1.1) ?_⟩
  rintro o M2 ⟨rfl, rfl⟩
  refine ⟨fun h9 => absurd h9 (by decide), fun _ => Ct.mono (j_can hl0 hc8) ?_⟩
  rintro o M3 ⟨rfl, rfl⟩
  refine ⟨fun h9 => absurd h9 (by decide), fun _ => ⟨b', n', ⟨rfl, hS1.2.1⟩, trivial, n', rfl, ?_, ?_⟩⟩
  · show vp_in (mI M3 a 3) n'
    rw [c3]; exact vp_in_nI (by omega) (by have := hS1.2.2.1.2; omega)
  · refine ⟨by show 0 + 1 + 0 + 0 ≤ 1; omega, by show 0 + 4096 + 0 + 0 ≤ 4096; omega, ⟨⟨rfl, b', n', ?_, ?_, hb1, hN1⟩⟩⟩
    · have ck : (mI M3 a 3).toNatClampNeg = T.length := by rw [c3]; exact nI_clamp (by have := hS1.2.2.1; omega)
      refine hS1.put (S := [c]) (v := fun j => if j = T.length then nI c else mI M3 b' j) (fun z hz => by rw [List.mem_singleton.mp hz]; exact hc8) (by show T.length + 1 ≤ n'; omega) (fun j hj => by show (if j = T.length then nI c else mI M3 b' j) = mI M3 b' j; rw [if_neg (by omega)]) (fun j hj => ?_) (fun j => ?_) ?_ ?_ ?_ rfl rfl rfl rfl
      · have hj' : j = 0 := by have : j < 1 := hj; omega
        subst hj'
        show (if T.length + 0 = T.length then nI c else mI M3 b' (T.length + 0)) = nI c
        rw [if_pos (by omega)]
      · show fits .byte (.int (if j = T.length then nI c else mI M3 b' j)) = true
        split
        · exact (nb_f c hc8).1
        · exact hS1.2.2.2.1.2.2 j
      · funext j
        rw [mI_sI2, ck]
        by_cases hj : j = T.length
        · rw [if_pos ⟨rfl, hj⟩, if_pos hj]
          exact (nb_f c hc8).2.2.1
        · rw [if_neg (fun z => hj z.2), if_neg hj, mI_sI2, if_neg (fun z => hab z.1.symm)]
      · rw [mI_sI2, if_neg (fun z => hab z.1), mI_sI2, if_neg (fun z => absurd z.2 (by decide))]
      · rw [mI_sI2, if_neg (fun z => hab z.1), mI_sI2, if_pos ⟨rfl, rfl⟩]
        show mI M3 a 3 + 1 = _
        rw [c3]; exact nI_add _ 1
    · refine hf1.tr (fr2.mk2 (b := b') rfl rfl rfl (fun z ca cb => ⟨?_, rfl, rfl⟩)) hb1
      funext j
      rw [mI_sI2, if_neg (fun w => cb w.1), mI_sI2, if_neg (fun w => ca w.1)]
theorem j_appCB (hl0 : l.stackTraces = false) {M : EM} {a b n c : Nat} {T : List Nat} (h : SBd M a b n T) (hc8 : c < 128) (hk : T.length + 1 ≤ 1000) : Ct l g sg_J4_append_cf468 [.inr (.inr (.inr (.inr (57, a)))), .inl (nI c)] M (fun o M' => BX (o = .inl (some (.inr (.inr (.inr (.inr (57, a)))))) ∧ AP M a b (T ++ [c]) M')) := by
  refine sem_ofF hl0 mt_J4_append_cf468 oe_J4_append_cf468 rfl (fun K hc hw => e_step rfl hc 20 [] ?_)
  refine ⟨rfl, ⟨by show 0 + 1 ≤ 1; omega, by show 0 + 4096 ≤ 4096; omega⟩, Ct.mono (j_appC hl0 h hc8 hk) ?_⟩
  rintro o M' ⟨⟨rfl, hA⟩⟩
  exact ⟨by show 0 + 1 ≤ 1; omega, by show 0 + 4096 ≤ 4096; omega, ⟨⟨rfl, hA⟩⟩⟩
end
