/-! BUILDERS AND TEXTS, 3: numbers are appended; the text is taken. -/
section
variable {l : Launch} {g : EG}
/-- the digits of a number below 10000 -/
def dgs (v : Nat) : List Nat := if v < 10 then [48 + v] else if v < 100 then [48 + v / 10, 48 + v % 10] else if v < 1000 then [48 + v / 100, 48 + v / 10 % 10, 48 + v % 10] else [48 + v / 1000, 48 + v / 100 % 10, 48 + v / 10 % 10, 48 + v % 10]
theorem dgs_ok {v : Nat} (h : v < 10000) : tx_ok (dgs v) := by
  intro c hc
  unfold dgs at hc
  (repeat' split at hc) <;> simp only [List.mem_cons, List.not_mem_nil, or_false] at hc <;> omega
theorem dgs_len {v : Nat} : 1 ≤ (dgs v).length ∧ (dgs v).length ≤ 4 := by
  unfold dgs
  (repeat' split) <;> (simp only [List.length_cons, List.length_nil]; omega)
theorem j_size (hl0 : l.stackTraces = false) {M : EM} {v : Nat} (hv : v < 10000) : Ct l g sg_J6_stringSize_0f7a4 [.inl (nI v)] M (fun o M' => M' = M ∧ o = .inl (some (.inl (nI (dgs v).length)))) := by
  refine sem_ofF hl0 mt_J6_stringSize_0f7a4 oe_J6_stringSize_0f7a4 rfl (fun K hc hw => e_step rfl hc 90 [] ?_)
  have k1 : ∀ k, k < 2 ^ 31 → (-nI v ≤ -nI k ↔ k ≤ v) := fun k hk => sb_nle (by omega) hk
  refine ⟨fun h9 => absurd h9 (nI_pos (by omega)), fun _ => ⟨fun h9 => absurd h9 (by decide), fun _ => ⟨fun h1 => ?_, fun h1 => ?_⟩⟩⟩
  · have h1' : 10 ≤ v := (k1 10 (by decide)).mp h1
    refine ⟨fun h9 => absurd h9 (by decide), fun _ => ⟨fun h2 => ?_, fun h2 => ?_⟩⟩
    · have h2' : 100 ≤ v := (k1 100 (by decide)).mp h2
      refine ⟨fun h9 => absurd h9 (by decide), fun _ => ⟨fun h3 => ?_, fun h3 => ?_⟩⟩
      · have h3' : 1000 ≤ v := (k1 1000 (by decide)).mp h3
        refine ⟨fun h9 => absurd h9 (by decide), fun _ => ⟨fun h4 => ?_, fun h4 => ?_⟩⟩
        · have h4' : 10000 ≤ v := (k1 10000 (by decide)).mp h4
          omega
        · refine ⟨Nat.zero_le _, Nat.zero_le _, rfl, oI ?_⟩
          unfold dgs
          rw [if_neg (by omega), if_neg (by omega), if_neg (by omega)]
          show ((1 : Int32) + 1 + 1 + 1) + 0 = nI 4; decide
      · have h3' : ¬ 1000 ≤ v := fun z => h3 ((k1 1000 (by decide)).mpr z)
        refine ⟨Nat.zero_le _, Nat.zero_le _, rfl, oI ?_⟩
        unfold dgs
        rw [if_neg (by omega), if_neg (by omega), if_pos (by omega)]
        show ((1 : Int32) + 1 + 1) + 0 = nI 3; decide
    · have h2' : ¬ 100 ≤ v := fun z => h2 ((k1 100 (by decide)).mpr z)
      refine ⟨Nat.zero_le _, Nat.zero_le _, rfl, oI ?_⟩
      unfold dgs
      rw [if_neg (by omega), if_pos (by omega)]
      show ((1 : Int32) + 1) + 0 = nI 2; decide
  · have h1' : ¬ 10 ≤ v := fun z => h1 ((k1 10 (by decide)).mpr z)
    refine ⟨Nat.zero_le _, Nat.zero_le _, rfl, oI ?_⟩
    unfold dgs
    rw [if_pos (by omega)]
    show (1 : Int32) + 0 = nI 1; decide
/-- the letters S lie at k in the bytes b; nothing else has changed but what lies behind k there -/
def upB (M M' : EM) (b k : Nat) (S : List Nat) : Prop := (∀ c, ¬ c = b → mI M' c = mI M c) ∧ (M'.1 = M.1 ∧ M'.2.2 = M.2.2) ∧ (∀ j, j < k → mI M' b j = mI M b j) ∧ (∀ j, j < S.length → mI M' b (k + j) = nI (S.getD j 0)) ∧ sb_Fit (mI M' b)
theorem upB.nil {M : EM} {b k : Nat} (h : sb_Fit (mI M b)) : upB M M b k [] := ⟨fun _ _ => rfl, ⟨rfl, rfl⟩, fun _ _ => rfl, fun j hj => absurd hj (Nat.not_lt_zero j), h⟩
theorem upB.cons {M M' : EM} {b k c : Nat} {S : List Nat} (h : upB M M' b (k + 1) S) (hc : c < 128) : upB M (sI M' b k (nI c)) b k (c :: S) := by
  obtain ⟨h1, h2, h3, h4, h5⟩ := h
  refine ⟨fun z hz => ?_, h2, fun j hj => ?_, fun j hj => ?_, fun j => ?_⟩
  · rw [mI_sI_ne hz]; exact h1 z hz
  · rw [mI_sI2, if_neg (by omega)]; exact h3 j (by omega)
  · cases j with
    | zero => rw [mI_sI2, if_pos ⟨rfl, rfl⟩]; rfl
    | succ j =>
      rw [mI_sI2, if_neg (by omega), show k + (j + 1) = k + 1 + j by omega, h4 j (by simpa using hj)]
      rfl
  · rw [mI_sI2]
    split
    · exact (nb_f c hc).1
    · exact h5 j
theorem d_ones {w : Nat} (hw : w < 100) : vp_nar .byte (e_ones (nI w).toNatClampNeg) = nI (48 + w % 10) := by
  rw [nI_clamp (by omega)]
  exact (nb_f (48 + w % 10) (by omega)).2.1
theorem d_tens {w : Nat} (hw : w < 100) : vp_nar .byte (e_tens (nI w).toNatClampNeg) = nI (48 + w / 10) := by
  rw [nI_clamp (by omega)]
  exact (nb_f (48 + w / 10) (by omega)).2.1
theorem j_chars (hl0 : l.stackTraces = false) {M : EM} {b n k v : Nat} (hv : v < 10000) (hk : k + (dgs v).length ≤ n) (hn : n ≤ 2010) (hf : sb_Fit (mI M b)) : Ct l g sg_J6_getChars_ba4f3 [.inl (nI v), .inl (nI (k + (dgs v).length)), .inr (.inr (.inr (.inr (2000 + n, b))))] M (fun o M' => BX (o = .inl (some (.inl (nI k))) ∧ upB M M' b k (dgs v))) := by
  have hL := @dgs_len v
  generalize hp : k + (dgs v).length = p at *
  have kl : ∀ w, w < 2 ^ 31 → ∀ k, k < 2 ^ 31 → (-nI k < -nI w ↔ w < k) := fun w hw k hk => sb_nlt hk hw
  have kle : ∀ w, w < 2 ^ 31 → ∀ k, k < 2 ^ 31 → (-nI k ≤ -nI w ↔ w ≤ k) := fun w hw k hk => sb_nle hk hw
  have m1 : nI p + (-1) = nI (p - 1) := sb_m1 (by omega)
  -- the last one or two digits, at the place p' and a number w below 100
  have fin : ∀ (M1 : EM) (p' w : Nat), w < 100 → 1 ≤ p' → p' ≤ n → (9 < w → 2 ≤ p') → True := fun _ _ _ _ _ _ _ => trivial
  refine sem_ofF hl0 mt_J6_getChars_ba4f3 oe_J6_getChars_ba4f3 rfl (fun K hc hw => e_step rfl hc 140 [72] ?_)
  have K72 : ∀ (M1 : EM) (p' w : Nat) (v3 v4 : Option EV), w < 100 → p' ≤ n → k + (if w < 10 then 1 else 2) = p' → upB M M1 b p' ((dgs v).drop (if w < 10 then 1 else 2)) → (dgs v) = (if w < 10 then [48 + w] else [48 + w / 10, 48 + w % 10]) ++ (dgs v).drop (if w < 10 then 1 else 2) → K 72 [some (.inl (-nI w)), some (.inl (nI p)), some (.inr (.inr (.inr (.inr (2000 + n, b))))), v3, v4, some (.inl (nI p')), some (.inl 0)] [] M1 0 0 := by
    intro M1 p' w v3 v4 hw9 hpn hkp hup hdg
    have e0 : -(-nI w) = nI w := Int32.neg_neg
    have m1 : nI p' + (-1) = nI (p' - 1) := sb_m1 (by split at hkp <;> omega)
    refine e_step rfl hc 60 [] ?_
    refine ⟨?_, Or.inr ⟨rfl, ?_⟩⟩
    · show vp_in (-(-nI w)) 100
      rw [e0]; exact vp_in_nI hw9 (by decide)
    · refine ⟨n, rfl, ?_, fun h9 => ?_, fun h9 => ?_⟩
      · show vp_in (nI p' + (-1)) n
        rw [m1]; exact vp_in_nI (by split at hkp <;> omega) (by omega)
      · have h10 : w < 10 := by
          have h9' : -nI 9 ≤ -nI w := h9
          have := (kle w (by omega) 9 (by decide)).mp h9'
          omega
        simp only [if_pos h10, List.cons_append, List.nil_append] at hkp hup hdg
        refine ⟨fun _ => ⟨Nat.zero_le _, Nat.zero_le _, ⟨⟨oI (m1.trans (congrArg nI (by omega))), ?_⟩⟩⟩, fun h => absurd rfl h⟩
        show upB M (sI M1 b (nI p' + (-1)).toNatClampNeg (vp_nar .byte (e_ones (-(-nI w)).toNatClampNeg))) b k (dgs v)
        rw [m1, e0, d_ones hw9, nI_clamp (by omega), show p' - 1 = k by omega, hdg, show 48 + w % 10 = 48 + w by omega]
        exact upB.cons (by rw [hkp]; exact hup) (by omega)
      · have h10 : ¬ w < 10 := by
          have h9' : ¬ -nI 9 ≤ -nI w := h9
          intro z
          exact h9' ((kle w (by omega) 9 (by decide)).mpr (by omega))
        simp only [if_neg h10, List.cons_append, List.nil_append] at hkp hup hdg
        have m2 : nI p' + (-1) + (-1) = nI (p' - 2) := by rw [m1, sb_m1 (by omega)]; exact congrArg nI (by omega)
        refine ⟨?_, Or.inl ⟨rfl, n, rfl, ?_, fun _ => ⟨Nat.zero_le _, Nat.zero_le _, ⟨⟨oI (m2.trans (congrArg nI (by omega))), ?_⟩⟩⟩, fun h => absurd rfl h⟩⟩
        · show vp_in (-(-nI w)) 100
          rw [e0]; exact vp_in_nI hw9 (by decide)
        · show vp_in (nI p' + (-1) + (-1)) n
          rw [m2]; exact vp_in_nI (by omega) (by omega)
        · show upB M (sI (sI M1 b (nI p' + (-1)).toNatClampNeg (vp_nar .byte (e_ones (-(-nI w)).toNatClampNeg))) b (nI p' + (-1) + (-1)).toNatClampNeg (vp_nar .byte (e_tens (-(-nI w)).toNatClampNeg))) b k (dgs v)
          rw [m2, m1, e0, d_ones hw9, d_tens hw9, nI_clamp (by omega), nI_clamp (by omega), show p' - 2 = k by omega, hdg, show p' - 1 = k + 1 by omega]
          exact upB.cons (upB.cons (by rw [show k + 1 + 1 = p' by omega]; exact hup) (by omega)) (by omega)
  refine ⟨fun h9 => ?_, fun h9 => absurd (nI_pos' (by omega)) h9⟩
  refine ⟨fun h8 => absurd rfl h8, fun _ => ⟨fun h7 => ?_, fun h7 => ?_⟩⟩
  · have h100 : v < 100 := by
      have h7' : -nI 100 < -nI v := h7
      exact (kl v (by omega) 100 (by decide)).mp h7'
    refine K72 M p v _ _ h100 hk (by rw [← hp]; unfold dgs; by_cases h : v < 10 <;> simp [h, h100]) ?_ ?_
    · have e : (dgs v).drop (if v < 10 then 1 else 2) = [] := by unfold dgs; (repeat' split) <;> first | rfl | omega
      rw [e]; exact upB.nil hf
    · unfold dgs; (repeat' split) <;> first | rfl | omega
  · have h100 : 100 ≤ v := by
      have h7' : ¬ -nI 100 < -nI v := h7
      exact Nat.not_lt.mp (fun z => h7' ((kl v (by omega) 100 (by decide)).mpr z))
    have q1 : (-nI v) / 100 = -nI (v / 100) := sb_ndiv (by omega)
    have q2 : (-nI v) / 100 * 100 - (-nI v) = nI (v % 100) := by rw [q1]; exact sb_nrem (by omega)
    have hL3 : 3 ≤ (dgs v).length := by
      unfold dgs
      rw [if_neg (by omega), if_neg (by omega)]
      split <;> simp
    have m2 : nI p + (-1) + (-1) = nI (p - 2) := by rw [m1, sb_m1 (by omega)]; exact congrArg nI (by omega)
    have hr : v % 100 < 100 := Nat.mod_lt _ (by decide)
    refine ⟨fun z => absurd (show (100 : Int32) = 0 from z) (by decide), ?_⟩
    refine ⟨?_, Or.inr ⟨rfl, n, rfl, ?_, ?_⟩⟩
    · show vp_in ((-nI v) / 100 * 100 - (-nI v)) 100
      rw [q2]; exact vp_in_nI hr (by decide)
    · show vp_in (nI p + (-1)) n
      rw [m1]; exact vp_in_nI (by omega) (by omega)
    refine ⟨?_, Or.inl ⟨rfl, n, rfl, ?_, ?_⟩⟩
    · show vp_in ((-nI v) / 100 * 100 - (-nI v)) 100
      rw [q2]; exact vp_in_nI hr (by decide)
    · show vp_in (nI p + (-1) + (-1)) n
      rw [m2]; exact vp_in_nI (by omega) (by omega)
    have hv1 : v / 100 < 100 := by omega
    have dA : v < 1000 → dgs v = [48 + v / 100, 48 + v / 10 % 10, 48 + v % 10] := fun h => by
      unfold dgs; rw [if_neg (show ¬ v < 10 by omega), if_neg (show ¬ v < 100 by omega), if_pos h]
    have dB : ¬ v < 1000 → dgs v = [48 + v / 1000, 48 + v / 100 % 10, 48 + v / 10 % 10, 48 + v % 10] := fun h => by
      unfold dgs; rw [if_neg (show ¬ v < 10 by omega), if_neg (show ¬ v < 100 by omega), if_neg h]
    have hd2 : (dgs v).drop (if v / 100 < 10 then 1 else 2) = [48 + v / 10 % 10, 48 + v % 10] := by
      by_cases h : v < 1000
      · rw [if_pos (show v / 100 < 10 by omega), dA h]; rfl
      · rw [if_neg (show ¬ v / 100 < 10 by omega), dB h]; rfl
    refine ⟨fun h6 => ?_, fun h6 => ?_⟩
    · have hk72 := K72 (sI (sI M b (nI p + (-1)).toNatClampNeg (vp_nar .byte (e_ones ((-nI v) / 100 * 100 - (-nI v)).toNatClampNeg))) b (nI p + (-1) + (-1)).toNatClampNeg (vp_nar .byte (e_tens ((-nI v) / 100 * 100 - (-nI v)).toNatClampNeg))) (p - 2) (v / 100) (some (.inl (-nI (v / 100)))) (some (.inl (nI (v % 100)))) hv1 (by omega) ?_ ?_ ?_
      · rw [← q1, ← m2, ← q2] at hk72
        exact hk72
      · by_cases h : v < 1000
        · rw [if_pos (show v / 100 < 10 by omega), ← hp, dA h]; show k + 1 = k + 3 - 2; omega
        · rw [if_neg (show ¬ v / 100 < 10 by omega), ← hp, dB h]; show k + 2 = k + 4 - 2; omega
      · rw [hd2, m2, m1, q2, d_ones hr, d_tens hr, nI_clamp (by omega), nI_clamp (by omega), show v % 100 % 10 = v % 10 by omega, show v % 100 / 10 = v / 10 % 10 by omega, show p - 1 = p - 2 + 1 by omega]
        exact upB.cons (upB.cons (by rw [show p - 2 + 1 + 1 = p by omega]; exact upB.nil hf) (by omega)) (by omega)
      · rw [hd2]
        by_cases h : v < 1000
        · rw [if_pos (show v / 100 < 10 by omega), dA h]; rfl
        · rw [if_neg (show ¬ v / 100 < 10 by omega), dB h, show v / 100 / 10 = v / 1000 by omega]; rfl
    · exfalso
      have h6' : ¬ -nI 100 < (-nI v) / 100 := h6
      rw [q1] at h6'
      exact h6' ((kl (v / 100) (by omega) 100 (by decide)).mpr hv1)
end
