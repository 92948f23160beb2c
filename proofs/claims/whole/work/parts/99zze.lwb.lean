/-! THE LAW, 2: the busy share, as doubles. -/
section
variable {l : Launch} {g : EG}
theorem q_tl : FP.Core.b64.tails = 4503599627370496 := rfl
theorem q_ex : FP.Core.b64.exps = 2048 := rfl
theorem q_qn : FP.Core.b64.qmin = -1074 := rfl
theorem q_qx : FP.Core.b64.qmax = 971 := rfl
theorem q_p : FP.Core.b64.p = 53 := rfl
/-- a share as a double -/
def fW (C : Nat) (Q : Int) : Nat := ((Q + 1045).toNat + 1) * 4503599627370496 + (C * 536870912 - 4503599627370496)
theorem f2d_v {C : Nat} {Q : Int} (h : nrm C) (hq : rng Q) : FP.Core.convert FP.Core.b32 FP.Core.b64 (fU C Q).toNat = fW C Q := by
  unfold FP.Core.convert
  rw [fU_d h hq]
  obtain ⟨h1, h2⟩ := h
  obtain ⟨h3, h4⟩ := hq
  have lg : C.log2 = 23 := lg_nrm ⟨h1, h2⟩
  show FP.Core.encode FP.Core.b64 (FP.Core.roundRatio FP.Core.b64 false C 1 Q) = _
  unfold FP.Core.roundRatio
  rw [if_neg (by omega)]
  have qu : FP.Core.quantum FP.Core.b64 C 1 Q = Q - 29 := by
    unfold FP.Core.quantum
    rw [ldg_1 (by omega), q_qn, q_p, lg]
    omega
  rw [qu]
  unfold FP.Core.roundAt FP.Core.unitsNum FP.Core.unitsDen
  have e1 : (Q - (Q - 29)).toNat = 29 := by omega
  have e2 : ((Q - 29) - Q).toNat = 0 := by omega
  rw [e1, e2, Nat.pow_zero, Nat.mul_one, nst_1]
  unfold FP.Core.settle
  rw [if_pos (by rw [q_p]; show C * 536870912 < 9007199254740992; omega)]
  unfold FP.Core.bound
  rw [if_pos (by rw [q_qx]; omega)]
  unfold FP.Core.encode
  dsimp only
  rw [if_neg (show ¬ C * 2 ^ 29 < FP.Core.b64.tails by rw [q_tl]; show ¬ C * 536870912 < 4503599627370496; omega)]
  unfold FP.Core.assemble fW
  rw [q_ex, q_tl, q_qn]
  show (0 * 2048 + ((Q - 29 - -1074).toNat + 1)) * 4503599627370496 + (C * 536870912 - 4503599627370496) = _
  have e : (Q - 29 - -1074) = Q + 1045 := by omega
  rw [e]
  simp
theorem fW_lt {C : Nat} {Q : Int} (h : nrm C) (hq : rng Q) : fW C Q < 9218868437227405312 := by
  unfold fW
  obtain ⟨h1, h2⟩ := h
  obtain ⟨h3, h4⟩ := hq
  omega
theorem fW_dec {C : Nat} {Q : Int} (h : nrm C) (hq : rng Q) : ∃ c q, FP.Core.decode FP.Core.b64 (fW C Q) = .fin false c q := by
  obtain ⟨h1, h2⟩ := h
  obtain ⟨h3, h4⟩ := hq
  have eE : FP.Core.fieldE FP.Core.b64 (fW C Q) = (Q + 1045).toNat + 1 := by
    unfold FP.Core.fieldE fW; rw [q_tl, q_ex]; omega
  have eS : FP.Core.fieldS FP.Core.b64 (fW C Q) = false := by
    unfold FP.Core.fieldS fW; rw [q_tl, q_ex]
    have : (((Q + 1045).toNat + 1) * 4503599627370496 + (C * 536870912 - 4503599627370496)) / 4503599627370496 / 2048 % 2 = 0 := by omega
    rw [this]; rfl
  unfold FP.Core.decode
  rw [eE, eS, q_ex, if_neg (by omega), if_neg (by omega)]
  exact ⟨_, _, rfl⟩
theorem nn64 {x : UInt64} (h : x.toNat ≤ 9218868437227405312) : x &&& 0x7fffffffffffffff ≤ 0x7ff0000000000000 := by
  rw [UInt64.le_iff_toNat_le, UInt64.toNat_and]
  have : x.toNat &&& (9223372036854775807 : Nat) = x.toNat % 9223372036854775808 := Nat.and_two_pow_sub_one_eq_mod x.toNat 63
  show x.toNat &&& 9223372036854775807 ≤ 9218868437227405312
  rw [this]; omega
theorem f2d_n {C : Nat} {Q : Int} (h : nrm C) (hq : rng Q) : (FP.Core.f2d (fU C Q)).toNat = fW C Q := by
  have := fW_lt h hq
  unfold FP.Core.f2d
  rw [f2d_v h hq, UInt64.toNat_ofNat']
  exact Nat.mod_eq_of_lt (by omega)
theorem f2d_c {w : UInt32} (h : shOk w) : FP.f2d w = FP.Core.f2d w := by
  unfold FP.f2d
  rw [if_neg]
  rcases h with rfl | ⟨C, Q, rfl, h1, h2, h3⟩
  · decide
  · rw [fn_v h1 ⟨by omega, by omega⟩]; decide
theorem f2d_ok {w : UInt32} (h : shOk w) : vf_n64 (FP.f2d w) := by
  rw [f2d_c h]
  unfold vf_n64
  rcases h with rfl | ⟨C, Q, rfl, h1, h2, h3⟩
  · decide +kernel
  · exact nn64 (by rw [f2d_n h1 ⟨by omega, by omega⟩]; exact Nat.le_of_lt (fW_lt h1 ⟨by omega, by omega⟩))
theorem f2d_eq {w : UInt32} (h : shOk w) : FP.dcmp (FP.f2d w) (FP.f2d w) = some .eq := by
  rw [f2d_c h]
  rcases h with rfl | ⟨C, Q, rfl, h1, h2, h3⟩
  · decide +kernel
  · show FP.Core.dcmp _ _ = _
    unfold FP.Core.dcmp FP.Core.cmp
    rw [f2d_n h1 ⟨by omega, by omega⟩]
    obtain ⟨c, q, e⟩ := fW_dec (Q := Q) h1 ⟨by omega, by omega⟩
    rw [e]
    unfold FP.Core.order
    show some (compare _ _) = _
    rw [Int.compare_eq_eq.mpr rfl]
set_option maxRecDepth 20000 in
theorem lc_busy (hl0 : l.stackTraces = false) {b L x m oa od T i nc ns : Nat} {xs : Nat → Int32} {M : EM} {F : FM} {Q : EO → EM → Prop} {K : Nat → EK} (hc : e_clo (pgL_14 l g L xs) (e_ret sg_L_law Q) K) (hw : e_wk K) (hJ : JD M x F T) (hM : rM M m F = M) (hT : T + 100 < 2 ^ 20) (hl : x + 2232 ≤ m ∧ m + 14 ≤ oa ∧ m + 14 ≤ od) (hi : i + 7 ≤ L) (hL : L ≤ 3584) (hr : nc + 6 ≤ 601024 ∧ ns + 36 ≤ 7293034)
    (hK : ∀ M' nc' ns', (∃ F', JD M' x F' (T + 9) ∧ rM M' m F' = M') → nc' ≤ nc + 6 → ns' ≤ ns + 36 → K 2544 (LL b x m oa od i) [] M' nc' ns') : K 1154 (LL b x m oa od i) [] M nc ns := by
  obtain ⟨r, Pf, hk, h1, h2⟩ := px_busy hl0 hJ (m := m) (xs (nI i + 1).toNatClampNeg) (xs (nI i + 2).toNatClampNeg) (xs (nI i + 3).toNatClampNeg)
  refine e_step rfl hc 100 [2544] ?_
  refine ⟨⟨rfl, xin (k := 1) (by omega) hL⟩, ⟨rfl, xin (k := 2) (by omega) hL⟩, ⟨rfl, xin (k := 3) (by omega) hL⟩, ⟨by show nc + 2 ≤ 601024; omega, by show ns + 12 ≤ 7293034; omega⟩, CtH.mono (cw_busy hl0 _ _ _ (fun h9 => f2d_ok (hk.2 h9)) hk.1 h1) ?_⟩
  rintro o M1 ⟨⟨hW⟩⟩
  obtain ⟨⟨e1, hN⟩, hv, rfl⟩ := WP.mid hW hM hl.1 hl.2.2 (fun M1 M2 hn he F' hF' => (hn F' hF').eq he)
  have h2' := h2 M1
  rw [e1] at h2'
  refine ⟨⟨rfl, xin (k := 1) (by omega) hL⟩, ⟨rfl, xin (k := 2) (by omega) hL⟩, ⟨rfl, xin (k := 3) (by omega) hL⟩, ⟨by show nc + 2 + 0 ≤ 601024; omega, by show ns + 12 + 0 ≤ 7293034; omega⟩, Ct.mono h2' ?_⟩
  rintro o M2 ⟨⟨F', ⟨rfl, c0⟩, ⟨w, rfl, hw'⟩, hP⟩⟩
  have fin : ∀ nc' ns', nc' ≤ nc + 6 → ns' ≤ ns + 36 → K 2544 [some (.inr (.inr (.inr (.inr (216, b))))), some (.inr (.inr (.inr (.inr (1, x))))), some (.inr (.inr (.inr (.inr (30, m))))), some (.inr (.inr (.inr (.inr (50, oa))))), some (.inr (.inr (.inr (.inr (51, od))))), some (.inl (nI i)), some (.inl r.1), some (.inr (.inr (.inl w)))] [] (rM M1 m F') nc' ns' := fun nc' ns' a1 a2 => LL.wk hw (hK _ nc' ns' ⟨F', (hN F' hP).eq (rM_eq (by omega)), rM_ie (fun c j c1 c2 => if_pos ⟨c1, c2⟩)⟩ a1 a2)
  refine ⟨⟨by show nc + 2 + 0 + 0 ≤ 601024; omega, by show ns + 12 + 0 + 0 ≤ 7293034; omega⟩, Ct.mono (cr_thrown hl0 M1 F') ?_⟩
  rintro o M3 ⟨rfl, rfl⟩
  have z0 : r.1 = 0 → (mL M1 od 0).toUInt64 = FP.f2d w ∧ shOk w := fun hz => by
    have := hk.2 hz
    rw [hv hz, hw' hz]
    exact ⟨by simp, this⟩
  refine ⟨fun _ => ⟨fun _ => fin _ _ (by show nc + 2 + 0 + 0 ≤ _; omega) (by show ns + 12 + 0 + 0 ≤ _; omega), fun hz => ⟨vp_in_iff.mpr (by decide), f2d_ok (z0 hz).2, fun _ => fin _ _ (by show nc + 2 + 0 + 0 ≤ _; omega) (by show ns + 12 + 0 + 0 ≤ _; omega), fun hne => absurd ?_ hne⟩⟩, fun hne => absurd c0 hne⟩
  have hz' : r.1 = 0 := hz
  show Op.cmpValue (FP.dcmp (mL M1 od 0).toUInt64 (FP.f2d w)) .l = 0
  rw [(z0 hz').1, f2d_eq (z0 hz').2]
  rfl
end
