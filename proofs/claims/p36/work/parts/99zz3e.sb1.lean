/-! BUILDERS AND TEXTS, 1: what they hold; their small methods. -/
section
variable {l : Launch} {g : EG}
def tx_ok (T : List Nat) : Prop := ∀ c ∈ T, c < 128
def tx_at (M : EM) (b : Nat) (T : List Nat) : Prop := ∀ j, j < T.length → mI M b j = nI (T.getD j 0)
/-- a builder at a: its bytes at b, n of them; its letters T -/
def SBd (M : EM) (a b n : Nat) (T : List Nat) : Prop := (mI M a 1 = 0 ∧ mI M a 3 = nI T.length) ∧ e_isV M (57, a) b n ∧ (T.length ≤ n ∧ n ≤ 2010) ∧ (tx_at M b T ∧ tx_ok T ∧ sb_Fit (mI M b)) ∧ (a < mN M ∧ b < mN M ∧ a ≠ b)
/-- a text with the letters T, apart from the cells a and b -/
def Txt (M : EM) (q : Nat × Nat) (T : List Nat) (a b : Nat) : Prop := tx_ok T ∧ ((q.1 = 56 ∧ ∃ c, e_isV M q c T.length ∧ mI M q.2 1 = 0 ∧ tx_at M c T ∧ (c < mN M ∧ ¬ c = a ∧ ¬ c = b ∧ q.2 < mN M ∧ ¬ q.2 = a ∧ ¬ q.2 = b)) ∨ ((200 ≤ q.1 ∧ q.1 ≤ 234) ∧ e_len.getD (q.1 - 200) 0 = T.length ∧ ∀ j, j < T.length → (e_byt.getD (q.1 - 200) []).getD j 0 = nI (T.getD j 0)))
/-- all cells that were there, but a and b, hold what they held -/
def fr2 (M M' : EM) (a b : Nat) : Prop := mN M ≤ mN M' ∧ (∀ c ∈ mA M, c ∈ mA M') ∧ ∀ c, c < mN M → mT M' c = mT M c ∧ (¬ c = a → ¬ c = b → mI M' c = mI M c ∧ mL M' c = mL M c ∧ mP M' c = mP M c)
theorem fr2.rf {M : EM} {a b : Nat} : fr2 M M a b := ⟨Nat.le_refl _, fun _ h => h, fun _ _ => ⟨rfl, fun _ _ => ⟨rfl, rfl, rfl⟩⟩⟩
theorem fr2.tr {M M' M'' : EM} {a b b' : Nat} (h : fr2 M M' a b) (h' : fr2 M' M'' a b') (hb : b' = b ∨ mN M ≤ b') : fr2 M M'' a b :=
  ⟨Nat.le_trans h.1 h'.1, fun c hc => h'.2.1 c (h.2.1 c hc), fun c hc => ⟨(h'.2.2 c (Nat.lt_of_lt_of_le hc h.1)).1.trans (h.2.2 c hc).1, fun h1 h2 => by
    obtain ⟨x1, x2, x3⟩ := (h.2.2 c hc).2 h1 h2
    obtain ⟨y1, y2, y3⟩ := (h'.2.2 c (Nat.lt_of_lt_of_le hc h.1)).2 h1 (by omega)
    exact ⟨y1.trans x1, y2.trans x2, y3.trans x3⟩⟩⟩
theorem nb_f : ∀ c, c < 128 → fits .byte (.int (nI c)) = true ∧ vp_nar .byte (nI c) = nI c ∧ vp_nar .byte ((nI c).toInt8.toInt32) = nI c ∧ ((nI c) &&& 255).toUInt32 % 65536 = (nI c).toUInt32 ∧ narrow FieldType.char (.int (nI c)) = .int (nI c) := by decide +kernel
theorem sb_shl (x : Int32) {c : Int32} (h : c = 0) : x <<< (c &&& 31) = x := by rw [h]; exact sb_shl0 x
theorem sb_shr (x : Int32) {c : Int32} (h : c = 0) : x >>> (c &&& 31) = x := by rw [h]; exact sb_shr0 x
theorem oI {x y : Int32} (h : x = y) : (Sum.inl (some (Sum.inl x)) : EO) = Sum.inl (some (Sum.inl y)) := by rw [h]
theorem j_lat (hl0 : l.stackTraces = false) {M : EM} {a : Nat} (h : mI M a 1 = 0) : Ct l g sg_J5_isLatin1_aae02 [.inr (.inr (.inr (.inr (57, a))))] M (fun o M' => M' = M ∧ o = .inl (some (.inl 1))) := by
  refine sem_ofF hl0 mt_J5_isLatin1_aae02 oe_J5_isLatin1_aae02 rfl (fun K hc hw => e_step rfl hc 20 [] ?_)
  refine ⟨fun h => absurd h (by decide), fun _ => ⟨fun h9 => absurd h h9, fun _ => ?_⟩⟩
  exact ⟨⟨by decide, by decide⟩, Nat.zero_le _, Nat.zero_le _, rfl, rfl⟩
theorem j_coder (hl0 : l.stackTraces = false) {M : EM} {q : Nat × Nat} {T : List Nat} {a b : Nat} (h : Txt M q T a b) : Ct l g sg_J0_coder_7d493 [.inr (.inr (.inr (.inr q)))] M (fun o M' => M' = M ∧ o = .inl (some (.inl 0))) := by
  refine sem_ofF hl0 mt_J0_coder_7d493 oe_J0_coder_7d493 rfl (fun K hc hw => e_step rfl hc 20 [] ?_)
  refine ⟨fun h => absurd h (by decide), fun _ => ?_⟩
  rcases h.2 with ⟨hq, c, -, h1, -⟩ | ⟨hq, -⟩
  · exact Or.inl ⟨hq, by rw [h1]; decide, Nat.zero_le _, Nat.zero_le _, rfl, by rw [h1]⟩
  · exact Or.inr ⟨hq, by decide, Nat.zero_le _, Nat.zero_le _, rfl, rfl⟩
theorem j_len (hl0 : l.stackTraces = false) {M : EM} {q : Nat × Nat} {T : List Nat} {a b : Nat} (h : Txt M q T a b) : Ct l g sg_J0_length_8abf5 [.inr (.inr (.inr (.inr q)))] M (fun o M' => M' = M ∧ o = .inl (some (.inl (nI T.length)))) := by
  refine sem_ofF hl0 mt_J0_length_8abf5 oe_J0_length_8abf5 rfl (fun K hc hw => e_step rfl hc 20 [] ?_)
  rcases id h.2 with ⟨hq, c, h0, h1, -⟩ | ⟨hq, hn, -⟩
  · refine Or.inl ⟨c, T.length, ⟨hq, h0⟩, Or.inl ⟨T.length, rfl, Or.inl hq, ⟨Nat.zero_le _, Nat.zero_le _⟩, Ct.mono (j_coder hl0 h) ?_⟩⟩
    rintro o M' ⟨rfl, rfl⟩
    exact ⟨Nat.zero_le _, Nat.zero_le _, rfl, oI (sb_shr _ rfl)⟩
  · refine Or.inr ⟨hq, fun a1 => Or.inr ⟨⟨by show 300 ≤ q.1 + 100; omega, by show q.1 + 100 ≤ 334; omega⟩, Or.inr hq, ⟨Nat.zero_le _, Nat.zero_le _⟩, Ct.mono (j_coder hl0 h) ?_⟩⟩
    rintro o M' ⟨rfl, rfl⟩
    refine ⟨Nat.zero_le _, Nat.zero_le _, rfl, ?_⟩
    have e9 : q.1 + 100 - 300 = q.1 - 200 := by omega
    show (Sum.inl (some (Sum.inl (nI (e_len.getD (q.1 + 100 - 300) 0) >>> ((0 : Int32) &&& 31)))) : EO) = _
    rw [e9, hn, sb_shr _ rfl]
theorem j_newLength (hl0 : l.stackTraces = false) {M : EM} {m k w : Nat} (hm : m ≤ 10000) (hk : k ≤ 10000) (hw : w ≤ 10000) (h0 : 0 < w) : Ct l g sg_J8_newLength_cabcc [.inl (nI m), .inl (nI k), .inl (nI w)] M (fun o M' => M' = M ∧ o = .inl (some (.inl (nI (m + max k w))))) := by
  have e1 : (if nI k < nI w then nI w else nI k) = nI (max k w) := by
    by_cases h : k < w
    · rw [if_pos (nI_lt h (by omega)), Nat.max_eq_right (by omega)]
    · rw [if_neg (nI_nlt (by omega) (by omega)), Nat.max_eq_left (by omega)]
  have e2 : nI m + (if nI k < nI w then nI w else nI k) = nI (m + max k w) := by rw [e1, nI_add]
  have hx : max k w ≤ 10000 ∧ 0 < max k w := by omega
  refine sem_ofF hl0 mt_J8_newLength_cabcc oe_J8_newLength_cabcc rfl (fun K hc hw => e_step rfl hc 30 [] ?_)
  refine ⟨fun h => ?_, fun _ => ⟨fun h => ?_, fun _ => ?_⟩⟩
  · exfalso
    have h' : nI m + (if nI k < nI w then nI w else nI k) ≤ 0 := h
    rw [e2] at h'
    exact nI_nle (by omega) (by omega) h'
  · exfalso
    have h' : nI 2147483639 < nI m + (if nI k < nI w then nI w else nI k) := h
    rw [e2] at h'
    exact nI_nlt (by omega) (by omega) h'
  · exact ⟨Nat.zero_le _, Nat.zero_le _, rfl, oI e2⟩
theorem j_newCap (hl0 : l.stackTraces = false) {M : EM} {a b n k : Nat} {T : List Nat} (h : SBd M a b n T) (hk : n < k) (hk2 : k ≤ 1000) : Ct l g sg_J5_newCapacity_0f7a4 [.inr (.inr (.inr (.inr (57, a)))), .inl (nI k)] M (fun o M' => M' = M ∧ o = .inl (some (.inl (nI (n + max (k - n) (n + 2)))))) := by
  obtain ⟨⟨h1, h2⟩, h3, -⟩ := h
  refine sem_ofF hl0 mt_J5_newCapacity_0f7a4 oe_J5_newCapacity_0f7a4 rfl (fun K hc hw => e_step rfl hc 40 [] ?_)
  refine ⟨b, n, ⟨rfl, h3⟩, Or.inl ⟨n, rfl, ?_⟩⟩
  have e1 : nI k <<< (mI M a 1 &&& 31) - nI n = nI (k - n) := by rw [sb_shl _ h1]; exact pk_sub (by omega)
  have e2 : nI n + (2 : Int32) <<< (mI M a 1 &&& 31) = nI (n + 2) := by rw [sb_shl _ h1]; exact nI_add n 2
  refine Ct.mono (show Ct l g sg_J8_newLength_cabcc [.inl (nI n), .inl (nI k <<< (mI M a 1 &&& 31) - nI n), .inl (nI n + (2 : Int32) <<< (mI M a 1 &&& 31))] M _ from by rw [e1, e2]; exact j_newLength hl0 (by omega) (by omega) (by omega) (by omega)) ?_
  rintro o M' ⟨rfl, rfl⟩
  refine ⟨fun h9 => ?_, fun h9 => ?_⟩
  · exact ⟨Nat.zero_le _, Nat.zero_le _, rfl, oI (sb_shr _ h1)⟩
  · exfalso
    have := (nI_eq (by omega) (by omega)).mp (show nI (n + max (k - n) (n + 2)) = nI 2147483647 from h9)
    omega
theorem mP_sP3 {M : EM} {a k c j v : Nat} : mP (sP M a k v) c j = if c = a ∧ j = k then some v else mP M c j := by
  simp only [mP, sP, e_up]
  by_cases h : c = a <;> by_cases h2 : j = k <;> simp [h, h2]
theorem e_bys_o {M : EM} {n b : Nat} : e_bys M (2000 + n, b) = mI M b := by unfold e_bys; rw [if_pos (by show 2000 ≤ 2000 + n; omega)]
theorem e_byn_o {n b : Nat} : e_byn (2000 + n, b) = n := by unfold e_byn; rw [if_pos (by show 2000 ≤ 2000 + n; omega)]; show 2000 + n - 2000 = n; omega
/-- a copy with more room -/
theorem j_copyOf (hl0 : l.stackTraces = false) {M : EM} {b n k : Nat} (hnk : n < k) (hk : k ≤ 2010) (hb : b < mN M) (hf : sb_Fit (mI M b)) : Ct l g sg_J7_copyOf_9075b [.inr (.inr (.inr (.inr (2000 + n, b)))), .inl (nI k)] M (fun o M' => BX (M' = sIr (sNew M (2000 + k)) (mN M) (va_cpy (mI M b) (fun _ => 0) 0 0 n) ∧ o = .inl (some (.inr (.inr (.inr (.inr (2000 + k, mN M)))))))) := by
  refine sem_ofF hl0 mt_J7_copyOf_9075b oe_J7_copyOf_9075b rfl (fun K hc hw => e_step rfl hc 40 [] ?_)
  refine Or.inl ⟨n, rfl, fun _ => ⟨k, ⟨rfl, by omega⟩, ⟨?_, ?_⟩, Or.inl ⟨n, rfl, ?_⟩⟩, fun h => ?_⟩
  · show 0 + 1 ≤ 1; omega
  · show 0 + k ≤ 4096; omega
  · have e1 : (if nI k < nI n then nI k else nI n) = nI n := if_neg (nI_nlt (by omega) (by omega))
    have z0 : (0 : Int32).toNatClampNeg = 0 := rfl
    have cn : (if nI k < nI n then nI k else nI n).toNatClampNeg = n := by rw [e1]; exact nI_clamp (by omega)
    have eb : e_bys (sNew M (2000 + k)) (2000 + n, b) = mI M b := by
      rw [e_bys_o]
      funext j
      rw [mI_sNew, if_neg (by omega)]
    have en : mI (sNew M (2000 + k)) (mN M) = fun _ => 0 := by funext j; rw [mI_sNew, if_pos rfl]
    refine ⟨⟨by show 0 + 1 ≤ 1; omega, by show 0 + k ≤ 4096; omega⟩, ?_⟩
    refine ⟨⟨⟨by show 2000 ≤ 2000 + k; omega, Or.inl (by show 2000 ≤ 2000 + n; omega)⟩, ⟨by decide, by decide, by rw [e1]; exact nI_pos (by omega)⟩, ?_, ?_, fun i hi => ?_⟩, ?_⟩
    · rw [e_byn_o, cn, z0]; omega
    · rw [cn, z0]; show 0 + n ≤ 2000 + k - 2000; omega
    · rw [eb]; exact hf _
    · refine ⟨by show 0 + 1 ≤ 1; omega, by show 0 + k ≤ 4096; omega, ⟨⟨?_, rfl⟩⟩⟩
      rw [eb, cn, z0, en]
  · exfalso
    have := (nI_eq (by omega) (by omega)).mp (show nI k = nI n from h)
    omega
theorem j_ensure (hl0 : l.stackTraces = false) {M : EM} {a b n k : Nat} {T : List Nat} (h : SBd M a b n T) (hk : T.length ≤ k) (hk2 : k ≤ 1000) : Ct l g sg_J5_ensureCapacityInternal_d00df [.inr (.inr (.inr (.inr (57, a)))), .inl (nI k)] M (fun o M' => BX (o = .inl none ∧ ∃ b' n', SBd M' a b' n' T ∧ k ≤ n' ∧ fr2 M M' a b ∧ (b' = b ∨ mN M ≤ b') ∧ mN M' ≤ mN M + 1)) := by
  obtain ⟨⟨h1, h2⟩, h3, h4, h5, h6⟩ := id h
  refine sem_ofF hl0 mt_J5_ensureCapacityInternal_d00df oe_J5_ensureCapacityInternal_d00df rfl (fun K hc hw => e_step rfl hc 40 [] ?_)
  refine ⟨b, n, ⟨rfl, h3⟩, Or.inl ⟨n, rfl, fun h9 => ?_, fun h9 => ?_⟩⟩
  · refine ⟨Nat.zero_le _, Nat.zero_le _, ⟨⟨rfl, b, n, h, ?_, fr2.rf, Or.inl rfl, by omega⟩⟩⟩
    have h9' : nI k - nI n >>> (mI M a 1 &&& 31) ≤ 0 := h9
    rw [sb_shr _ h1, Int32.le_iff_toInt_le, pk_sub_toInt (by omega) (by omega)] at h9'
    have h0 : (0 : Int32).toInt = 0 := by decide
    rw [h0] at h9'
    omega
  · have hnk : n < k := by
      have h9' : ¬ nI k - nI n >>> (mI M a 1 &&& 31) ≤ 0 := h9
      rw [sb_shr _ h1, Int32.le_iff_toInt_le, pk_sub_toInt (by omega) (by omega)] at h9'
      have h0 : (0 : Int32).toInt = 0 := by decide
      rw [h0] at h9'
      omega
    refine ⟨b, n, ⟨rfl, h3⟩, rfl, ⟨Nat.zero_le _, Nat.zero_le _⟩, Ct.mono (j_newCap hl0 h hnk hk2) ?_⟩
    rintro o M' ⟨rfl, rfl⟩
    have hm : n + max (k - n) (n + 2) ≤ 2010 := by omega
    have hc9 : nI (n + max (k - n) (n + 2)) <<< (mI M' a 1 &&& 31) = nI (n + max (k - n) (n + 2)) := sb_shl _ h1
    refine Ct.mono (show Ct l g sg_J7_copyOf_9075b [.inr (.inr (.inr (.inr (2000 + n, b)))), .inl (nI (n + max (k - n) (n + 2)) <<< (mI M' a 1 &&& 31))] M' _ from by rw [hc9]; exact j_copyOf hl0 (by omega) hm h6.2.1 h5.2.2) ?_
    rintro o M2 ⟨⟨rfl, rfl⟩⟩
    generalize hk9 : n + max (k - n) (n + 2) = k9 at *
    refine ⟨⟨k9, rfl⟩, rfl, ?_⟩
    refine ⟨by show 0 + 0 + 1 ≤ 1; omega, by show 0 + 0 + 4096 ≤ 4096; omega, ⟨⟨rfl, mN M', k9, ?_, by omega, ?_, Or.inr (Nat.le_refl _), Nat.le_refl _⟩⟩⟩
    · have ha : ¬ a = mN M' := by omega
      have hbn : ¬ b = mN M' := by omega
      have iA : ∀ j, mI (sP (sIr (sNew M' (2000 + k9)) (mN M') (va_cpy (mI M' b) (fun _ => 0) 0 0 n)) a 0 (mN M')) a j = mI M' a j := fun j => by
        show mI (sIr (sNew M' (2000 + k9)) (mN M') (va_cpy (mI M' b) (fun _ => 0) 0 0 n)) a j = _
        rw [mI_sIr, if_neg ha, mI_sNew, if_neg ha]
      have iB : ∀ j, mI (sP (sIr (sNew M' (2000 + k9)) (mN M') (va_cpy (mI M' b) (fun _ => 0) 0 0 n)) a 0 (mN M')) (mN M') j = va_cpy (mI M' b) (fun _ => 0) 0 0 n j := fun j => by
        show mI (sIr (sNew M' (2000 + k9)) (mN M') (va_cpy (mI M' b) (fun _ => 0) 0 0 n)) (mN M') j = _
        rw [mI_sIr, if_pos rfl]
      refine ⟨⟨by rw [iA]; exact h1, by rw [iA]; exact h2⟩, ⟨Or.inr rfl, ?_, ?_, ?_⟩, ⟨by omega, hm⟩, ⟨fun j hj => ?_, h5.2.1, fun j => ?_⟩, ⟨by show a < mN M' + 1; omega, by show mN M' < mN M' + 1; omega, ha⟩⟩
      · show mP (sP (sIr (sNew M' (2000 + k9)) (mN M') (va_cpy (mI M' b) (fun _ => 0) 0 0 n)) a 0 (mN M')) a 0 = some (mN M')
        rw [mP_sP3, if_pos ⟨rfl, rfl⟩]
      · exact List.mem_append_right _ (List.mem_singleton.mpr rfl)
      · exact mT_sNew_e
      · rw [iB, sb_cpy0 (by omega)]
        exact h5.1 j hj
      · rw [iB]
        exact sb_fitC h5.2.2 sb_fit0 j
    · refine ⟨Nat.le_succ _, fun c hc => List.mem_append_left _ hc, fun c hc => ?_⟩
      have hcn : ¬ c = mN M' := by omega
      refine ⟨mT_sNew hcn, fun ca cb => ⟨?_, ?_, ?_⟩⟩
      · funext j
        show mI (sIr (sNew M' (2000 + k9)) (mN M') _) c j = _
        rw [mI_sIr, if_neg hcn, mI_sNew, if_neg hcn]
      · funext j
        show mL (sNew M' (2000 + k9)) c j = _
        rw [mL_sNew, if_neg hcn]
      · funext j
        show mP (sP (sIr (sNew M' (2000 + k9)) (mN M') (va_cpy (mI M' b) (fun _ => 0) 0 0 n)) a 0 (mN M')) c j = _
        rw [mP_sP3, if_neg (fun z => ca z.1)]
        show mP (sNew M' (2000 + k9)) c j = _
        rw [mP_sNew, if_neg hcn]
end
