/-! BUILDERS AND TEXTS, 4: numbers appended; builders made; the text taken. -/
section
variable {l : Launch} {g : EG}
theorem j_appI (hl0 : l.stackTraces = false) {M : EM} {a b n v : Nat} {T : List Nat} (h : SBd M a b n T) (hv : v < 10000) (hk : T.length + 4 ≤ 1000) : Ct l g sg_J5_append_c97b9 [.inr (.inr (.inr (.inr (57, a)))), .inl (nI v)] M (fun o M' => BX (o = .inl (some (.inr (.inr (.inr (.inr (57, a)))))) ∧ AP M a b (T ++ dgs v) M')) := by
  refine sem_ofF hl0 mt_J5_append_c97b9 oe_J5_append_c97b9 rfl (fun K hc hw => e_step rfl hc 60 [] ?_)
  have hL := @dgs_len v
  refine Ct.mono (j_size hl0 hv) ?_
  rintro o M' ⟨rfl, rfl⟩
  have e3 : mI M' a 3 + nI (dgs v).length = nI (T.length + (dgs v).length) := by rw [h.1.2]; exact nI_add _ _
  refine ⟨rfl, ⟨by show 0 + 0 + 1 ≤ 1; omega, by show 0 + 0 + 4096 ≤ 4096; omega⟩, ?_⟩
  refine Ct.mono (show Ct l g sg_J5_ensureCapacityInternal_d00df [.inr (.inr (.inr (.inr (57, a)))), .inl (mI M' a 3 + nI (dgs v).length)] M' _ from by rw [e3]; exact j_ensure hl0 h (Nat.le_add_right _ _) (by omega)) ?_
  rintro o M1 ⟨⟨rfl, b', n', hS1, hk1, hf1, hb1, hN1⟩⟩
  have hab : ¬ a = b' := hS1.2.2.2.2.2.2
  refine ⟨rfl, ⟨by show 0 + 0 + 1 + 0 ≤ 1; omega, by show 0 + 0 + 4096 + 0 ≤ 4096; omega⟩, Ct.mono (j_lat hl0 hS1.1.1) ?_⟩
  rintro o M2 ⟨rfl, rfl⟩
  refine ⟨fun h9 => absurd h9 (by decide), fun _ => ⟨b', n', ⟨rfl, hS1.2.1⟩, ?_⟩⟩
  refine Ct.mono (show Ct l g sg_J6_getChars_ba4f3 [.inl (nI v), .inl (mI M' a 3 + nI (dgs v).length), .inr (.inr (.inr (.inr (2000 + n', b'))))] M2 _ from by rw [e3]; exact j_chars hl0 hv hk1 hS1.2.2.1.2 hS1.2.2.2.1.2.2) ?_
  rintro o M3 ⟨⟨rfl, u1, ⟨u2, u3⟩, u4, u5, u6⟩⟩
  have eT : mT M3 = mT M2 := u2
  have eL : mL M3 = mL M2 := congrArg (fun z => z.1) u3
  have eP : mP M3 = mP M2 := congrArg (fun z => z.2.1) u3
  have eN : mN M3 = mN M2 := congrArg (fun z => z.2.2.1) u3
  have eA : mA M3 = mA M2 := congrArg (fun z => z.2.2.2) u3
  refine ⟨trivial, by show 0 + 0 + 1 + 0 + 0 ≤ 1; omega, by show 0 + 0 + 4096 + 0 + 0 ≤ 4096; omega, ⟨⟨rfl, b', n', ?_, ?_, hb1, by show mN M3 ≤ _; rw [eN]; exact hN1⟩⟩⟩
  · refine hS1.put (S := dgs v) (v := mI M3 b') (dgs_ok hv) hk1 u4 u5 u6 ?_ ?_ ?_ (congrFun eP a) (congrFun eT b') eA eN
    · funext j
      rw [mI_sI2, if_neg (fun z => hab z.1.symm)]
    · rw [mI_sI2, if_neg (fun z => absurd z.2 (by decide)), u1 a hab]
    · rw [mI_sI2, if_pos ⟨rfl, rfl⟩]
      exact e3
  · refine hf1.tr (fr2.mk2 (b := b') eT eA eN (fun z ca cb => ⟨?_, congrFun eL z, congrFun eP z⟩)) hb1
    funext j
    rw [mI_sI2, if_neg (fun w => ca w.1), u1 z cb]
theorem j_appIB (hl0 : l.stackTraces = false) {M : EM} {a b n v : Nat} {T : List Nat} (h : SBd M a b n T) (hv : v < 10000) (hk : T.length + 4 ≤ 1000) : Ct l g sg_J4_append_bf812 [.inr (.inr (.inr (.inr (57, a)))), .inl (nI v)] M (fun o M' => BX (o = .inl (some (.inr (.inr (.inr (.inr (57, a)))))) ∧ AP M a b (T ++ dgs v) M')) := by
  refine sem_ofF hl0 mt_J4_append_bf812 oe_J4_append_bf812 rfl (fun K hc hw => e_step rfl hc 20 [] ?_)
  refine ⟨rfl, ⟨by show 0 + 1 ≤ 1; omega, by show 0 + 4096 ≤ 4096; omega⟩, Ct.mono (j_appI hl0 h hv hk) ?_⟩
  rintro o M' ⟨⟨rfl, hA⟩⟩
  exact ⟨by show 0 + 1 ≤ 1; omega, by show 0 + 4096 ≤ 4096; omega, ⟨⟨rfl, hA⟩⟩⟩
theorem tx_nil : tx_ok [] := by intro c hc; cases hc
theorem fit_of {f : Nat → Int32} (h : ∀ j, f j = 0) : sb_Fit f := fun j => by rw [h j]; exact sb_fit0 j
/-- a new builder, all of it 0 -/
def SB0 (M : EM) (a : Nat) : Prop := (a < mN M ∧ a ∈ mA M ∧ mT M a = 57) ∧ (∀ j, mI M a j = 0)
/-- what a builder's constructor leaves -/
def NB (M : EM) (a : Nat) (T : List Nat) (M' : EM) : Prop := ∃ b n, SBd M' a b n T ∧ fr2 M M' a a ∧ mN M ≤ b ∧ mN M' ≤ mN M + 2
theorem j_newI (hl0 : l.stackTraces = false) {M : EM} {a : Nat} (h : SB0 M a) : Ct l g sg_J5_init_d00df [.inr (.inr (.inr (.inr (57, a)))), .inl 16] M (fun o M' => BX (o = .inl none ∧ NB M a [] M')) := by
  refine sem_ofF hl0 mt_J5_init_d00df oe_J5_init_d00df rfl (fun K hc hw => e_step rfl hc 60 [] ?_)
  obtain ⟨⟨h1, h2, h3⟩, h4⟩ := h
  have ha : ¬ a = mN M := by omega
  refine ⟨fun h9 => absurd h9 (by decide), fun _ => ⟨16, ⟨rfl, by decide⟩, ⟨by show 0 + 1 ≤ 1; omega, by show 0 + 16 ≤ 64; omega⟩, ⟨16, rfl⟩, rfl, ⟨by decide, by decide⟩, ?_⟩⟩
  refine ⟨by show 0 + 1 ≤ 1; omega, by show 0 + 16 ≤ 64; omega, ⟨⟨rfl, mN M, 16, ?_, ?_, Nat.le_refl _, Nat.le_succ _⟩⟩⟩
  · have iA : ∀ j, mI (sI (sP (sNew M (2000 + 16)) a 0 (mN M)) a 1 0) a j = 0 := fun j => by
      rw [mI_sI2]
      split
      · rfl
      · show mI (sNew M (2000 + 16)) a j = 0
        rw [mI_sNew, if_neg ha]; exact h4 j
    have iB : ∀ j, mI (sI (sP (sNew M (2000 + 16)) a 0 (mN M)) a 1 0) (mN M) j = 0 := fun j => by
      rw [mI_sI2, if_neg (fun z => ha z.1.symm)]
      show mI (sNew M (2000 + 16)) (mN M) j = 0
      rw [mI_sNew, if_pos rfl]
    refine ⟨⟨iA 1, iA 3⟩, ⟨Or.inr rfl, ?_, List.mem_append_right _ (List.mem_singleton.mpr rfl), mT_sNew_e⟩, ⟨Nat.zero_le _, by decide⟩, ⟨fun j hj => absurd hj (Nat.not_lt_zero j), tx_nil, fit_of iB⟩, by show a < mN M + 1; omega, by show mN M < mN M + 1; omega, ha⟩
    show mP (sP (sNew M (2000 + 16)) a 0 (mN M)) a 0 = some (mN M)
    rw [mP_sP3, if_pos ⟨rfl, rfl⟩]
  · refine ⟨Nat.le_succ _, fun c hc => List.mem_append_left _ hc, fun c hc => ?_⟩
    have hcn : ¬ c = mN M := by omega
    refine ⟨mT_sNew hcn, fun ca _ => ⟨?_, ?_, ?_⟩⟩
    · funext j
      rw [mI_sI2, if_neg (fun z => ca z.1)]
      show mI (sNew M (2000 + 16)) c j = _
      rw [mI_sNew, if_neg hcn]
    · funext j
      show mL (sNew M (2000 + 16)) c j = _
      rw [mL_sNew, if_neg hcn]
    · funext j
      show mP (sP (sNew M (2000 + 16)) a 0 (mN M)) c j = _
      rw [mP_sP3, if_neg (fun z => ca z.1)]
      show mP (sNew M (2000 + 16)) c j = _
      rw [mP_sNew, if_neg hcn]
theorem j_newB (hl0 : l.stackTraces = false) {M : EM} {a : Nat} (h : SB0 M a) : Ct l g sg_J4_init_da8c8 [.inr (.inr (.inr (.inr (57, a))))] M (fun o M' => BX (o = .inl none ∧ NB M a [] M')) := by
  refine sem_ofF hl0 mt_J4_init_da8c8 oe_J4_init_da8c8 rfl (fun K hc hw => e_step rfl hc 20 [] ?_)
  refine ⟨⟨by show 0 + 1 ≤ 1; omega, by show 0 + 64 ≤ 64; omega⟩, Ct.mono (j_newI hl0 h) ?_⟩
  rintro o M' ⟨⟨rfl, hA⟩⟩
  exact ⟨by show 0 + 1 ≤ 1; omega, by show 0 + 64 ≤ 64; omega, ⟨⟨rfl, hA⟩⟩⟩
end
