/-! BUILDERS AND TEXTS, 6: the text of a builder; letters of a text. -/
section
variable {l : Launch} {g : EG}
theorem nb_g : ∀ c, c < 128 → (((nI c) &&& 255).toUInt32 % 65536).toInt32 = nI c := by decide +kernel
theorem fr2.new {M : EM} {t : Nat} {a : Nat} : fr2 M (sNew M t) a a := ⟨Nat.le_succ _, fun c hc => List.mem_append_left _ hc, fun c hc => ⟨mT_sNew (by omega), fun _ _ => ⟨by funext j; rw [mI_sNew, if_neg (by omega)], by funext j; rw [mL_sNew, if_neg (by omega)], by funext j; rw [mP_sNew, if_neg (by omega)]⟩⟩⟩
/-- a builder where nothing of it has changed -/
theorem SBd.fr {M M' : EM} {a b n x : Nat} {T : List Nat} (h : SBd M a b n T) (f : fr2 M M' x x) (h1 : ¬ a = x) (h2 : ¬ b = x) : SBd M' a b n T := by
  obtain ⟨⟨a1, a2⟩, ⟨a3, a4, a5, a6⟩, ⟨a7, a8⟩, ⟨a9, a10, a11⟩, a12, a13, a14⟩ := h
  obtain ⟨f1, f2, f3⟩ := f
  obtain ⟨t1, u1⟩ := f3 a a12
  obtain ⟨t2, u2⟩ := f3 b a13
  obtain ⟨i1, -, p1⟩ := u1 h1 h1
  obtain ⟨i2, -, -⟩ := u2 h2 h2
  exact ⟨⟨by rw [i1]; exact a1, by rw [i1]; exact a2⟩, ⟨a3, by rw [p1]; exact a4, f2 _ a5, t2.trans a6⟩, ⟨a7, a8⟩, ⟨fun j hj => by rw [i2]; exact a9 j hj, a10, by rw [i2]; exact a11⟩, by omega, by omega, a14⟩
theorem SBd.new {M : EM} {a b n t : Nat} {T : List Nat} (h : SBd M a b n T) : SBd (sNew M t) a b n T := h.fr (x := mN M) fr2.new (by have := h.2.2.2.2; omega) (by have := h.2.2.2.2; omega)
/-- a text at x whose bytes lie at c -/
def OT (M : EM) (x c : Nat) (T : List Nat) : Prop := tx_ok T ∧ e_isV M (56, x) c T.length ∧ mI M x 1 = 0 ∧ tx_at M c T ∧ (c < mN M ∧ x < mN M)
theorem OT.txt {M : EM} {x c a b : Nat} {T : List Nat} (h : OT M x c T) (h1 : ¬ c = a) (h2 : ¬ c = b) (h3 : ¬ x = a) (h4 : ¬ x = b) : Txt M (56, x) T a b := ⟨h.1, Or.inl ⟨rfl, c, h.2.1, h.2.2.1, h.2.2.2.1, h.2.2.2.2.1, h1, h2, h.2.2.2.2.2, h3, h4⟩⟩
/-- a new text object, all of it 0 -/
def T0 (M : EM) (x : Nat) : Prop := (x < mN M ∧ x ∈ mA M ∧ mT M x = 56) ∧ (∀ j, mI M x j = 0)
/-- what a text's constructor leaves -/
def NT (M : EM) (x : Nat) (T : List Nat) (M' : EM) : Prop := OT M' x (mN M) T ∧ fr2 M M' x x ∧ mN M' ≤ mN M + 1
theorem j_txtV (hl0 : l.stackTraces = false) {M : EM} {x a b n : Nat} {T : List Nat} (hx : T0 M x) (h : SBd M a b n T) (hxa : ¬ x = a ∧ ¬ x = b) (hv : e_vok g M (.inr (.inr (.inr (.inr (57, a)))))) : CtV l g sg_J0_init_db425 [.ref x, .ref a, .null] M (fun o M' => BX (o = .inl none ∧ NT M x T M')) := by
  refine sem_ofV (ls0 := [some (.inr (.inr (.inr (.inr (56, x))))), some (.inr (.inr (.inr (.inr (57, a))))), none, none, none]) hl0 mt_J0_init_db425 oe_J0_init_db425 (show 3 ≤ 5 by decide) ?_ ?_ (fun K hc hw => e_step rfl hc 60 [] ?_)
  · intro q hq
    rcases List.mem_cons.mp hq with rfl | hq
    · exact List.mem_cons_self
    rcases List.mem_cons.mp hq with rfl | hq
    · exact List.mem_cons_of_mem _ List.mem_cons_self
    · exact absurd hq List.not_mem_nil
  · exact ⟨Or.inl ⟨hx.1.2.1, hx.1.2.2⟩, hv, trivial⟩
  · refine ⟨rfl, ⟨Nat.zero_le _, Nat.zero_le _⟩, Ct.mono (j_getV hl0 h) ?_⟩
    rintro o M1 ⟨rfl, rfl⟩
    refine ⟨rfl, ⟨Nat.zero_le _, Nat.zero_le _⟩, Ct.mono (j_lenB hl0 h) ?_⟩
    rintro o M2 ⟨rfl, rfl⟩
    refine ⟨rfl, ⟨Nat.zero_le _, Nat.zero_le _⟩, Ct.mono (j_lat hl0 h.1.1) ?_⟩
    rintro o M3 ⟨rfl, rfl⟩
    refine ⟨fun h9 => absurd h9 (by decide), fun _ => ?_⟩
    obtain ⟨⟨x1, x2, x3⟩, x4⟩ := id hx
    have hb := h.2.2.2.2.2.1
    have hf := h.2.2.2.1.2.2
    refine ⟨⟨by decide, by decide⟩, ?_⟩
    have eb : mI (sI M3 x 1 0) b = mI M3 b := by
      funext j
      rw [mI_sI2, if_neg (fun z => hxa.2 z.1.symm)]
    refine Ct.mono (j_copyOR hl0 h.2.2.1.1 h.2.2.1.2 hb (by rw [eb]; exact hf)) ?_
    rintro o M4 ⟨⟨⟨v, rfl, v1, v2⟩, rfl⟩⟩
    have hxn : ¬ x = mN M3 := by omega
    have hT : T.length ≤ 2010 := Nat.le_trans h.2.2.1.1 h.2.2.1.2
    refine ⟨⟨T.length, rfl⟩, rfl, ?_⟩
    refine ⟨by show 0 + 0 + 0 + 0 + 1 ≤ 1; omega, by show 0 + 0 + 0 + 0 + 4096 ≤ 4096; omega, ⟨⟨rfl, ⟨h.2.2.2.1.2.1, ⟨Or.inl rfl, ?_, ?_, ?_⟩, ?_, fun j hj => ?_, ?_, ?_⟩, ?_, ?_⟩⟩⟩
    · show mP (sP (sIr (sNew (sI M3 x 1 0) (2000 + T.length)) (mN M3) v) x 0 (mN M3)) x 0 = some (mN M3)
      rw [mP_sP3, if_pos ⟨rfl, rfl⟩]
    · exact List.mem_append_right _ (List.mem_singleton.mpr rfl)
    · exact mT_sNew_e
    · show mI (sIr (sNew (sI M3 x 1 0) (2000 + T.length)) (mN M3) v) x 1 = 0
      rw [mI_sIr, if_neg hxn, mI_sNew, if_neg (show ¬ x = mN (sI M3 x 1 0) from hxn), mI_sI2, if_pos ⟨rfl, rfl⟩]
    · show mI (sIr (sNew (sI M3 x 1 0) (2000 + T.length)) (mN M3) v) (mN M3) j = _
      rw [mI_sIr, if_pos rfl, v1 j hj, eb]
      exact h.2.2.2.1.1 j hj
    · show mN M3 < mN M3 + 1; omega
    · show x < mN M3 + 1; omega
    · refine ⟨Nat.le_succ _, fun c hc => List.mem_append_left _ hc, fun c hc => ?_⟩
      have hcn : ¬ c = mN M3 := by omega
      have hcn' : ¬ c = mN (sI M3 x 1 0) := hcn
      refine ⟨mT_sNew hcn', fun ca _ => ⟨?_, ?_, ?_⟩⟩
      · funext j
        show mI (sIr (sNew (sI M3 x 1 0) (2000 + T.length)) (mN M3) v) c j = _
        rw [mI_sIr, if_neg hcn, mI_sNew, if_neg hcn', mI_sI2, if_neg (fun z => ca z.1)]
      · funext j
        show mL (sNew (sI M3 x 1 0) (2000 + T.length)) c j = _
        rw [mL_sNew, if_neg hcn']; rfl
      · funext j
        show mP (sP (sIr (sNew (sI M3 x 1 0) (2000 + T.length)) (mN M3) v) x 0 (mN M3)) c j = _
        rw [mP_sP3, if_neg (fun z => ca z.1)]
        show mP (sNew (sI M3 x 1 0) (2000 + T.length)) c j = _
        rw [mP_sNew, if_neg hcn']; rfl
    · exact Nat.le_refl _
theorem j_txt (hl0 : l.stackTraces = false) {M : EM} {x a b n : Nat} {T : List Nat} (hx : T0 M x) (h : SBd M a b n T) (hxa : ¬ x = a ∧ ¬ x = b) : Ct l g sg_J0_init_81219 [.inr (.inr (.inr (.inr (56, x)))), .inr (.inr (.inr (.inr (57, a))))] M (fun o M' => BX (o = .inl none ∧ NT M x T M')) := by
  intro ok ha
  have hv : e_vok g M (.inr (.inr (.inr (.inr (57, a))))) := ha.2.1
  refine sem_ofF hl0 mt_J0_init_81219 oe_J0_init_81219 rfl (fun K hc hw => e_step rfl hc 20 [] ?_) ok ha
  refine ⟨⟨by show 0 + 1 ≤ 1; omega, by show 0 + 4096 ≤ 4096; omega⟩, CtV.mono (j_txtV hl0 hx h hxa hv) ?_⟩
  rintro o M' ⟨⟨rfl, hA⟩⟩
  exact ⟨by show 0 + 1 ≤ 1; omega, by show 0 + 4096 ≤ 4096; omega, ⟨⟨rfl, hA⟩⟩⟩
/-- the text of a builder -/
theorem j_toS (hl0 : l.stackTraces = false) {M : EM} {a b n : Nat} {T : List Nat} (h : SBd M a b n T) : Ct l g sg_J4_toString_0e30d [.inr (.inr (.inr (.inr (57, a))))] M (fun o M' => BX (o = .inl (some (.inr (.inr (.inr (.inr (56, mN M)))))) ∧ OT M' (mN M) (mN M + 1) T ∧ fr2 M M' (mN M) (mN M) ∧ mN M' ≤ mN M + 2)) := by
  refine sem_ofF hl0 mt_J4_toString_0e30d oe_J4_toString_0e30d rfl (fun K hc hw => e_step rfl hc 20 [] ?_)
  have hA := h.2.2.2.2
  have hx : T0 (sNew M 56) (mN M) := ⟨⟨Nat.lt_succ_self _, List.mem_append_right _ (List.mem_singleton.mpr rfl), mT_sNew_e⟩, fun j => by rw [mI_sNew, if_pos rfl]⟩
  refine ⟨⟨by show 0 + 1 + 1 ≤ 2; omega, by show 0 + 4 + 4096 ≤ 4100; omega⟩, Ct.mono (j_txt hl0 hx h.new ⟨by omega, by omega⟩) ?_⟩
  rintro o M' ⟨⟨rfl, hO, hf, hN⟩⟩
  refine ⟨by show 0 + 1 + 1 ≤ 2; omega, by show 0 + 4 + 4096 ≤ 4100; omega, ⟨⟨rfl, hO, (fr2.new (t := 56)).tr hf (Or.inr (Nat.le_refl _)), by have : mN (sNew M 56) = mN M + 1 := rfl; omega⟩⟩⟩
theorem j_lat0 (hl0 : l.stackTraces = false) {M : EM} {q : Nat × Nat} {T : List Nat} {a b : Nat} (h : Txt M q T a b) : Ct l g sg_J0_isLatin1_aae02 [.inr (.inr (.inr (.inr q)))] M (fun o M' => M' = M ∧ o = .inl (some (.inl 1))) := by
  refine sem_ofF hl0 mt_J0_isLatin1_aae02 oe_J0_isLatin1_aae02 rfl (fun K hc hw => e_step rfl hc 20 [] ?_)
  refine ⟨fun h => absurd h (by decide), fun _ => ?_⟩
  rcases h.2 with ⟨hq, c, -, h1, -⟩ | ⟨hq, -⟩
  · exact Or.inl ⟨hq, fun h9 => absurd h1 h9, fun _ => ⟨⟨by decide, by decide⟩, Nat.zero_le _, Nat.zero_le _, rfl, rfl⟩⟩
  · exact Or.inr ⟨hq, fun h9 => absurd rfl h9, fun _ => ⟨⟨by decide, by decide⟩, Nat.zero_le _, Nat.zero_le _, rfl, rfl⟩⟩
theorem j_at1 (hl0 : l.stackTraces = false) {M : EM} {c k : Nat} {T : List Nat} (h : tx_at M c T) (ho : tx_ok T) (hn : T.length ≤ 2010) (hk : k < T.length) : Ct l g sg_J1_charAt_3b067 [.inr (.inr (.inr (.inr (2000 + T.length, c)))), .inl (nI k)] M (fun o M' => M' = M ∧ o = .inl (some (.inl (nI (T.getD k 0))))) := by
  refine sem_ofF hl0 mt_J1_charAt_3b067 oe_J1_charAt_3b067 rfl (fun K hc hw => e_step rfl hc 30 [] ?_)
  have hc8 : T.getD k 0 < 128 := ho _ (by rw [List.getD_eq_getElem?_getD, List.getElem?_eq_getElem hk]; exact List.getElem_mem hk)
  have hik : vp_in (nI k) T.length := vp_in_nI hk (by omega)
  have ck : (nI k).toNatClampNeg = k := nI_clamp (by omega)
  refine Or.inl ⟨T.length, rfl, ?_⟩
  refine Ct.mono (cj_chk hl0 hik (by omega)) ?_
  rintro o M' ⟨rfl, rfl⟩
  have ev : mI M' c (nI k).toNatClampNeg = nI (T.getD k 0) := by rw [ck]; exact h k hk
  have e2 : ((mI M' c (nI k).toNatClampNeg &&& 255).toUInt32 % 65536).toInt32 = nI (T.getD k 0) := by rw [ev]; exact nb_g _ hc8
  refine Or.inl ⟨T.length, rfl, hik, ?_, Nat.zero_le _, Nat.zero_le _, rfl, oI e2⟩
  show narrow FieldType.char (.int ((mI M' c (nI k).toNatClampNeg &&& 255).toUInt32 % 65536).toInt32) = .int ((mI M' c (nI k).toNatClampNeg &&& 255).toUInt32 % 65536).toInt32
  rw [e2]; exact (nb_f _ hc8).2.2.2.2
theorem j_at (hl0 : l.stackTraces = false) {M : EM} {x c k : Nat} {T : List Nat} (h : OT M x c T) (hn : T.length ≤ 2010) (hk : k < T.length) : Ct l g sg_J0_charAt_5068e [.inr (.inr (.inr (.inr (56, x)))), .inl (nI k)] M (fun o M' => M' = M ∧ o = .inl (some (.inl (nI (T.getD k 0))))) := by
  have hc8 : T.getD k 0 < 128 := h.1 _ (by rw [List.getD_eq_getElem?_getD, List.getElem?_eq_getElem hk]; exact List.getElem_mem hk)
  refine sem_ofF hl0 mt_J0_charAt_5068e oe_J0_charAt_5068e rfl (fun K hc hw => e_step rfl hc 30 [] ?_)
  refine ⟨Or.inl rfl, ⟨Nat.zero_le _, Nat.zero_le _⟩, Ct.mono (j_lat0 hl0 (h.txt (a := mN M) (b := mN M) (by have := h.2.2.2.2; omega) (by have := h.2.2.2.2; omega) (by have := h.2.2.2.2; omega) (by have := h.2.2.2.2; omega))) ?_⟩
  rintro o M' ⟨rfl, rfl⟩
  refine ⟨fun h9 => absurd h9 (by decide), fun _ => Or.inl ⟨c, T.length, ⟨rfl, h.2.1⟩, ?_⟩⟩
  refine Ct.mono (j_at1 hl0 h.2.2.2.1 h.1 hn hk) ?_
  rintro o M2 ⟨rfl, rfl⟩
  exact ⟨(nb_f _ hc8).2.2.2.2, Nat.zero_le _, Nat.zero_le _, rfl, rfl⟩
end
