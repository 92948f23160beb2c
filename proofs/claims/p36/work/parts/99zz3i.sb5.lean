/-! BUILDERS AND TEXTS, 5: a builder from a text; the text taken out. -/
section
variable {l : Launch} {g : EG}
theorem fr2.aa {M M' : EM} {a b : Nat} (h : fr2 M M' a a) : fr2 M M' a b := ⟨h.1, h.2.1, fun c hc => ⟨(h.2.2 c hc).1, fun h1 _ => (h.2.2 c hc).2 h1 h1⟩⟩
theorem fr2.tr2 {M M' M'' : EM} {a b : Nat} (h : fr2 M M' a a) (h' : fr2 M' M'' a b) (hb : mN M ≤ b) : fr2 M M'' a a :=
  ⟨Nat.le_trans h.1 h'.1, fun c hc => h'.2.1 c (h.2.1 c hc), fun c hc => ⟨(h'.2.2 c (Nat.lt_of_lt_of_le hc h.1)).1.trans (h.2.2 c hc).1, fun h1 h2 => by
    obtain ⟨x1, x2, x3⟩ := (h.2.2 c hc).2 h1 h2
    obtain ⟨y1, y2, y3⟩ := (h'.2.2 c (Nat.lt_of_lt_of_le hc h.1)).2 h1 (by omega)
    exact ⟨y1.trans x1, y2.trans x2, y3.trans x3⟩⟩⟩
theorem j_newS (hl0 : l.stackTraces = false) {M : EM} {a : Nat} {q : Nat × Nat} {S : List Nat} (h : SB0 M a) (ht : Txt M q S a a) (hk : S.length ≤ 48) : Ct l g sg_J5_init_a7421 [.inr (.inr (.inr (.inr (57, a)))), .inr (.inr (.inr (.inr q)))] M (fun o M' => BX (o = .inl none ∧ NB M a S M')) := by
  refine sem_ofF hl0 mt_J5_init_a7421 oe_J5_init_a7421 rfl (fun K hc hw => e_step rfl hc 60 [] ?_)
  obtain ⟨⟨h1, h2, h3⟩, h4⟩ := h
  have ha : ¬ a = mN M := by omega
  have hq : q.1 = 56 ∨ (200 ≤ q.1 ∧ q.1 ≤ 234) := ht.2.imp (fun z => z.1) (fun z => z.1)
  refine ⟨hq, ⟨Nat.zero_le _, Nat.zero_le _⟩, Ct.mono (j_len hl0 ht) ?_⟩
  rintro o M1 ⟨rfl, rfl⟩
  have hbig : ¬ nI 2147483631 ≤ nI S.length := nI_ge (show S.length < 2147483631 by omega) (by decide)
  refine ⟨fun h9 => absurd (show nI 2147483631 ≤ nI S.length from h9) hbig, fun _ => ⟨hq, ⟨Nat.zero_le _, Nat.zero_le _⟩, Ct.mono (j_coder hl0 ht) ?_⟩⟩
  rintro o M2 ⟨rfl, rfl⟩
  have e16 : nI S.length + 16 = nI (S.length + 16) := nI_add _ 16
  refine ⟨⟨by decide, by decide⟩, fun h9 => absurd rfl h9, fun _ => ⟨S.length + 16, ⟨e16, by omega⟩, ⟨by show 0 + 0 + 0 + 1 ≤ 2; omega, by show 0 + 0 + 0 + (S.length + 16) ≤ 4160; omega⟩, ⟨S.length + 16, rfl⟩, rfl, ?_⟩⟩
  generalize hk9 : S.length + 16 = k9 at *
  have iA : ∀ j, mI (sP (sNew (sI M2 a 1 0) (2000 + k9)) a 0 (mN M2)) a j = 0 := fun j => by
    show mI (sNew (sI M2 a 1 0) (2000 + k9)) a j = 0
    rw [mI_sNew, if_neg (show ¬ a = mN (sI M2 a 1 0) from ha), mI_sI2]
    split
    · rfl
    · exact h4 j
  have iB : ∀ j, mI (sP (sNew (sI M2 a 1 0) (2000 + k9)) a 0 (mN M2)) (mN M2) j = 0 := fun j => by
    show mI (sNew (sI M2 a 1 0) (2000 + k9)) (mN M2) j = 0
    rw [mI_sNew, if_pos (show mN M2 = mN (sI M2 a 1 0) from rfl)]
  have hS2 : SBd (sP (sNew (sI M2 a 1 0) (2000 + k9)) a 0 (mN M2)) a (mN M2) k9 [] := by
    refine ⟨⟨iA 1, iA 3⟩, ⟨Or.inr rfl, ?_, List.mem_append_right _ (List.mem_singleton.mpr rfl), mT_sNew_e⟩, ⟨Nat.zero_le _, by omega⟩, ⟨fun j hj => absurd hj (Nat.not_lt_zero j), tx_nil, fit_of iB⟩, by show a < mN M2 + 1; omega, by show mN M2 < mN M2 + 1; omega, ha⟩
    rw [mP_sP3, if_pos ⟨rfl, rfl⟩]
  have hf : fr2 M2 (sP (sNew (sI M2 a 1 0) (2000 + k9)) a 0 (mN M2)) a a := by
    refine ⟨Nat.le_succ _, fun c hc => List.mem_append_left _ hc, fun c hc => ?_⟩
    have hcn : ¬ c = mN M2 := by omega
    have hcn' : ¬ c = mN (sI M2 a 1 0) := hcn
    refine ⟨mT_sNew hcn', fun ca _ => ⟨?_, ?_, ?_⟩⟩
    · funext j
      show mI (sNew (sI M2 a 1 0) (2000 + k9)) c j = _
      rw [mI_sNew, if_neg hcn', mI_sI2, if_neg (fun z => ca z.1)]
    · funext j
      show mL (sNew (sI M2 a 1 0) (2000 + k9)) c j = _
      rw [mL_sNew, if_neg hcn']; rfl
    · funext j
      rw [mP_sP3, if_neg (fun z => ca z.1)]
      show mP (sNew (sI M2 a 1 0) (2000 + k9)) c j = _
      rw [mP_sNew, if_neg hcn']; rfl
  refine ⟨rfl, ⟨by show 0 + 0 + 0 + 1 + 1 ≤ 2; omega, by show 0 + 0 + 0 + k9 + 4096 ≤ 4160; omega⟩, Ct.mono (j_appSC hl0 hS2 (ht.fr hf (Or.inr (Nat.le_refl _))) (by show 0 + S.length ≤ 1000; omega)) ?_⟩
  rintro o M3 ⟨⟨rfl, b', n', hS3, hf3, hb3, hN3⟩⟩
  refine ⟨by show 0 + 0 + 0 + 1 + 1 ≤ 2; omega, by show 0 + 0 + 0 + k9 + 4096 ≤ 4160; omega, ⟨⟨rfl, b', n', hS3, ?_, ?_, ?_⟩⟩⟩
  · exact hf.tr2 hf3 (Nat.le_refl _)
  · rcases hb3 with h8 | h8
    · rw [h8]; exact Nat.le_refl _
    · exact Nat.le_trans (Nat.le_succ _) h8
  · exact hN3
theorem j_newSB (hl0 : l.stackTraces = false) {M : EM} {a : Nat} {q : Nat × Nat} {S : List Nat} (h : SB0 M a) (ht : Txt M q S a a) (hk : S.length ≤ 48) : Ct l g sg_J4_init_a7421 [.inr (.inr (.inr (.inr (57, a)))), .inr (.inr (.inr (.inr q)))] M (fun o M' => BX (o = .inl none ∧ NB M a S M')) := by
  refine sem_ofF hl0 mt_J4_init_a7421 oe_J4_init_a7421 rfl (fun K hc hw => e_step rfl hc 20 [] ?_)
  refine ⟨⟨by show 0 + 2 ≤ 2; omega, by show 0 + 4160 ≤ 4160; omega⟩, Ct.mono (j_newS hl0 h ht hk) ?_⟩
  rintro o M' ⟨⟨rfl, hA⟩⟩
  exact ⟨by show 0 + 2 ≤ 2; omega, by show 0 + 4160 ≤ 4160; omega, ⟨⟨rfl, hA⟩⟩⟩
theorem j_getV (hl0 : l.stackTraces = false) {M : EM} {a b n : Nat} {T : List Nat} (h : SBd M a b n T) : Ct l g sg_J5_getValue_6d5f1 [.inr (.inr (.inr (.inr (57, a))))] M (fun o M' => M' = M ∧ o = .inl (some (.inr (.inr (.inr (.inr (2000 + n, b))))))) := by
  refine sem_ofF hl0 mt_J5_getValue_6d5f1 oe_J5_getValue_6d5f1 rfl (fun K hc hw => e_step rfl hc 20 [] ?_)
  exact ⟨b, n, ⟨rfl, h.2.1⟩, Nat.zero_le _, Nat.zero_le _, rfl, rfl⟩
theorem j_lenS (hl0 : l.stackTraces = false) {M : EM} {a b n : Nat} {T : List Nat} (h : SBd M a b n T) : Ct l g sg_J5_length_8abf5 [.inr (.inr (.inr (.inr (57, a))))] M (fun o M' => M' = M ∧ o = .inl (some (.inl (nI T.length)))) := by
  refine sem_ofF hl0 mt_J5_length_8abf5 oe_J5_length_8abf5 rfl (fun K hc hw => e_step rfl hc 20 [] ?_)
  exact ⟨Nat.zero_le _, Nat.zero_le _, rfl, oI h.1.2⟩
theorem j_lenB (hl0 : l.stackTraces = false) {M : EM} {a b n : Nat} {T : List Nat} (h : SBd M a b n T) : Ct l g sg_J4_length_8abf5 [.inr (.inr (.inr (.inr (57, a))))] M (fun o M' => M' = M ∧ o = .inl (some (.inl (nI T.length)))) := by
  refine sem_ofF hl0 mt_J4_length_8abf5 oe_J4_length_8abf5 rfl (fun K hc hw => e_step rfl hc 20 [] ?_)
  refine ⟨rfl, ⟨Nat.zero_le _, Nat.zero_le _⟩, Ct.mono (j_lenS hl0 h) ?_⟩
  rintro o M' ⟨rfl, rfl⟩
  exact ⟨Nat.zero_le _, Nat.zero_le _, rfl, rfl⟩
theorem j_ckLen (hl0 : l.stackTraces = false) {M : EM} {k : Nat} (hk : k < 2 ^ 31) : Ct l g sg_J7_checkLength_df160 [.inl 0, .inl (nI k)] M (fun o M' => M' = M ∧ o = .inl none) := by
  refine sem_ofF hl0 mt_J7_checkLength_df160 oe_J7_checkLength_df160 rfl (fun K hc hw => e_step rfl hc 20 [] ?_)
  refine ⟨fun _ => ⟨Nat.zero_le _, Nat.zero_le _, rfl, rfl⟩, fun h9 => ?_⟩
  exact absurd (nI_le (Nat.zero_le k) hk) (show ¬ nI 0 ≤ nI k from h9)
/-- the first k bytes in a new array -/
def cpB (M : EM) (b k : Nat) (M' : EM) : Prop := ∃ v, M' = sIr (sNew M (2000 + k)) (mN M) v ∧ (∀ j, j < k → v j = mI M b j) ∧ sb_Fit v
theorem j_copyR (hl0 : l.stackTraces = false) {M : EM} {b n k : Nat} (hk : k ≤ n) (hn : n ≤ 2010) (hb : b < mN M) (hf : sb_Fit (mI M b)) : Ct l g sg_J7_copyOfRangeByte_39247 [.inr (.inr (.inr (.inr (2000 + n, b)))), .inl 0, .inl (nI k)] M (fun o M' => BX (cpB M b k M' ∧ o = .inl (some (.inr (.inr (.inr (.inr (2000 + k, mN M)))))))) := by
  refine sem_ofF hl0 mt_J7_copyOfRangeByte_39247 oe_J7_copyOfRangeByte_39247 rfl (fun K hc hw => e_step rfl hc 40 [] ?_)
  refine Ct.mono (j_ckLen hl0 (by omega)) ?_
  rintro o M' ⟨rfl, rfl⟩
  have ek : nI k - 0 = nI k := Int32.sub_zero _
  have en0 : nI n - 0 = nI n := Int32.sub_zero _
  refine ⟨k, ⟨ek, by omega⟩, ⟨by show 0 + 0 + 1 ≤ 1; omega, by show 0 + 0 + k ≤ 4096; omega⟩, Or.inl ⟨n, rfl, ⟨by show 0 + 0 + 1 ≤ 1; omega, by show 0 + 0 + k ≤ 4096; omega⟩, ?_⟩⟩
  have e1 : (if nI k - 0 < nI n - 0 then nI k - 0 else nI n - 0) = nI k := by
    rw [ek, en0]
    by_cases h : k < n
    · rw [if_pos (nI_lt h (by omega))]
    · rw [if_neg (nI_nlt (by omega) (by omega)), show n = k by omega]
  have z0 : (0 : Int32).toNatClampNeg = 0 := rfl
  have cn : (if nI k - 0 < nI n - 0 then nI k - 0 else nI n - 0).toNatClampNeg = k := by rw [e1]; exact nI_clamp (by omega)
  have eb : e_bys (sNew M' (2000 + k)) (2000 + n, b) = mI M' b := by
    rw [e_bys_o]
    funext j
    rw [mI_sNew, if_neg (by omega)]
  have en : mI (sNew M' (2000 + k)) (mN M') = fun _ => 0 := by funext j; rw [mI_sNew, if_pos rfl]
  refine ⟨⟨⟨by show 2000 ≤ 2000 + k; omega, Or.inl (by show 2000 ≤ 2000 + n; omega)⟩, ⟨by decide, by decide, by rw [e1]; exact nI_pos (by omega)⟩, ?_, ?_, fun i hi => ?_⟩, ?_⟩
  · rw [e_byn_o, cn, z0]; omega
  · rw [cn, z0]; show 0 + k ≤ 2000 + k - 2000; omega
  · rw [eb]; exact hf _
  · refine ⟨by show 0 + 0 + 1 ≤ 1; omega, by show 0 + 0 + k ≤ 4096; omega, ⟨⟨⟨va_cpy (mI M' b) (fun _ => 0) 0 0 k, ?_, fun j hj => sb_cpy0 hj, sb_fitC hf sb_fit0⟩, rfl⟩⟩⟩
    rw [eb, cn, z0, en]
theorem j_copyOR (hl0 : l.stackTraces = false) {M : EM} {b n k : Nat} (hk : k ≤ n) (hn : n ≤ 2010) (hb : b < mN M) (hf : sb_Fit (mI M b)) : Ct l g sg_J7_copyOfRange_39247 [.inr (.inr (.inr (.inr (2000 + n, b)))), .inl 0, .inl (nI k)] M (fun o M' => BX (cpB M b k M' ∧ o = .inl (some (.inr (.inr (.inr (.inr (2000 + k, mN M)))))))) := by
  refine sem_ofF hl0 mt_J7_copyOfRange_39247 oe_J7_copyOfRange_39247 rfl (fun K hc hw => e_step rfl hc 40 [] ?_)
  refine ⟨fun h9 => absurd rfl h9, fun _ => Or.inl ⟨n, rfl, fun h9 => ?_, fun h9 => ?_⟩⟩
  · have hkn : k = n := (nI_eq (by omega) (by omega)).mp h9
    subst hkn
    refine ⟨k, rfl, ⟨by show 0 + 1 ≤ 1; omega, by show 0 + k ≤ 4096; omega⟩, fun i _ => hf i, ⟨k, rfl⟩, ?_⟩
    exact ⟨by show 0 + 1 ≤ 1; omega, by show 0 + k ≤ 4096; omega, ⟨⟨⟨mI M b, rfl, fun j _ => rfl, hf⟩, rfl⟩⟩⟩
  · refine Ct.mono (j_copyR hl0 hk hn hb hf) ?_
    rintro o M' ⟨⟨hA, rfl⟩⟩
    exact ⟨by show 0 + 1 ≤ 1; omega, by show 0 + 4096 ≤ 4096; omega, ⟨⟨hA, rfl⟩⟩⟩
end
