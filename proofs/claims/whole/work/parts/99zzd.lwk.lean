/-! THE LAW, 1: one call. -/
section
variable {l : Launch} {g : EG}
def LL (b x m oa od i : Nat) : List (Option EV) := [some (.inr (.inr (.inr (.inr (216, b))))), some (.inr (.inr (.inr (.inr (1, x))))), some (.inr (.inr (.inr (.inr (30, m))))), some (.inr (.inr (.inr (.inr (50, oa))))), some (.inr (.inr (.inr (.inr (51, od))))), some (.inl (nI i)), none, none]
theorem rM_ie {M : EM} {m : Nat} {F : FM} (h : ∀ c j, m ≤ c → c < m + 14 → mI M c j = F (c - m) j) : rM M m F = M := by
  have e1 : (fun c j => if m ≤ c ∧ c < m + 14 then F (c - m) j else M.2.1 c j) = M.2.1 := by
    funext c j
    split
    · rename_i h1
      exact (h c j h1.1 h1.2).symm
    · rfl
  show (M.1, _, M.2.2) = M
  rw [e1]
theorem rM_at {M : EM} {m : Nat} {F : FM} (h : rM M m F = M) {c j : Nat} (h1 : m ≤ c) (h2 : c < m + 14) : mI M c j = F (c - m) j := by
  have : mI (rM M m F) c j = F (c - m) j := if_pos ⟨h1, h2⟩
  rw [h] at this
  exact this
theorem rM_mL {M : EM} {m : Nat} {F : FM} : mL (rM M m F) = mL M := rfl
theorem rM_eq {M : EM} {m lo hi : Nat} {F : FM} (h : hi ≤ m ∨ m + 14 ≤ lo) : eqR M (rM M m F) lo hi := fun c c1 c2 j => ⟨if_neg (by omega), rfl⟩
theorem xin {i k L : Nat} (h : i + k < L) (hL : L ≤ 3584) : vp_in (nI i + nI k) L := by
  rw [nI_add]
  exact vp_in_nI h (by omega)
/-- between the two calls the reference's cells stay -/
theorem WP.mid {N : EM → Prop} {c : Int32} {v : Int64} {M M' : EM} {x oa m : Nat} {F : FM} {o : EO} (h : WP N c v M x oa o M') (hM : rM M m F = M) (h1 : x + 2232 ≤ m) (h2 : m + 14 ≤ oa) (hN : ∀ M1 M2, N M1 → eqR M1 M2 x (x + 2229) → N M2) : (rM M' m F = M' ∧ N M') ∧ (c = 0 → mL M' oa 0 = v) ∧ o = .inl (some (.inl c)) := by
  obtain ⟨M1, ⟨hf, hn⟩, hm, ho⟩ := h
  by_cases h0 : c = 0
  · rw [if_pos h0] at hm
    subst hm
    refine ⟨⟨rM_ie (fun c j c1 c2 => ?_), hN _ _ hn (eqR.sL (by omega))⟩, fun _ => ?_, ho⟩
    · exact ((hf c (by omega) j).1).trans (rM_at hM c1 c2)
    · rw [mL_sL, if_pos rfl, if_pos rfl]
  · rw [if_neg h0] at hm
    subst hm
    exact ⟨⟨rM_ie (fun c j c1 c2 => ((hf c (by omega) j).1).trans (rM_at hM c1 c2)), hn⟩, fun h9 => absurd h9 h0, ho⟩
theorem LL.wk {K : Nat → EK} (hw : e_wk K) {b x m oa od i nc ns t : Nat} {M : EM} {u v : EV} (h : K t (LL b x m oa od i) [] M nc ns) : K t [some (.inr (.inr (.inr (.inr (216, b))))), some (.inr (.inr (.inr (.inr (1, x))))), some (.inr (.inr (.inr (.inr (30, m))))), some (.inr (.inr (.inr (.inr (50, oa))))), some (.inr (.inr (.inr (.inr (51, od))))), some (.inl (nI i)), some u, some v] [] M nc ns := by
  exact hw _ _ (LL b x m oa od i) _ _ _ _ ⟨rfl, rfl, rfl, rfl, rfl, rfl, trivial⟩ h
theorem lg_self {v : Int64} : lg_cmp v v = 0 := by
  unfold lg_cmp
  simp
set_option maxRecDepth 20000 in
theorem lc_feed (hl0 : l.stackTraces = false) {b L x m oa od T i nc ns : Nat} {xs : Nat → Int32} {M : EM} {F : FM} {Q : EO → EM → Prop} {K : Nat → EK} (hc : e_clo (pgL_0 l g L xs) (e_ret sg_L_law Q) K) (hw : e_wk K) (hJ : JD M x F T) (hM : rM M m F = M) (hT : T + 100 < 2 ^ 20) (hl : x + 2232 ≤ m ∧ m + 14 ≤ oa ∧ m + 14 ≤ od) (hi : i + 7 ≤ L) (hL : L ≤ 3584) (hr : nc + 6 ≤ 601024 ∧ ns + 36 ≤ 7293034)
    (hK : ∀ M' nc' ns', (∃ F', JD M' x F' (T + 9) ∧ rM M' m F' = M') → nc' ≤ nc + 6 → ns' ≤ ns + 36 → K 2544 (LL b x m oa od i) [] M' nc' ns') : K 192 (LL b x m oa od i) [] M nc ns := by
  obtain ⟨r, Pf, hk, h1, h2⟩ := px_feed hl0 hJ (m := m) (xs (nI i + 1).toNatClampNeg) (xs (nI i + 2).toNatClampNeg) (xs (nI i + 3).toNatClampNeg) (xs (nI i + 4).toNatClampNeg) (xs (nI i + 5).toNatClampNeg)
  refine e_step rfl hc 100 [2544] ?_
  refine ⟨⟨rfl, xin (k := 1) (by omega) hL⟩, ⟨rfl, xin (k := 2) (by omega) hL⟩, ⟨rfl, xin (k := 3) (by omega) hL⟩, ⟨rfl, xin (k := 4) (by omega) hL⟩, ⟨rfl, xin (k := 5) (by omega) hL⟩, ⟨by show nc + 1 ≤ 601024; omega, by show ns + 6 ≤ 7293034; omega⟩, CtH.mono (cw_feed hl0 _ _ _ _ _ hk h1) ?_⟩
  rintro o M1 ⟨⟨hW⟩⟩
  obtain ⟨⟨e1, hN⟩, hv, rfl⟩ := WP.mid hW hM hl.1 hl.2.1 (fun M1 M2 hn he F' hF' => (hn F' hF').eq he)
  have h2' := h2 M1
  rw [e1] at h2'
  refine ⟨⟨rfl, xin (k := 1) (by omega) hL⟩, ⟨rfl, xin (k := 2) (by omega) hL⟩, ⟨rfl, xin (k := 3) (by omega) hL⟩, ⟨rfl, xin (k := 4) (by omega) hL⟩, ⟨rfl, xin (k := 5) (by omega) hL⟩, ⟨by show nc + 1 + 0 ≤ 601024; omega, by show ns + 6 + 0 ≤ 7293034; omega⟩, Ct.mono h2' ?_⟩
  rintro o M2 ⟨⟨F', ⟨rfl, c0⟩, ⟨w, rfl, hw'⟩, hP⟩⟩
  have fin : ∀ nc' ns', nc' ≤ nc + 6 → ns' ≤ ns + 36 → K 2544 [some (.inr (.inr (.inr (.inr (216, b))))), some (.inr (.inr (.inr (.inr (1, x))))), some (.inr (.inr (.inr (.inr (30, m))))), some (.inr (.inr (.inr (.inr (50, oa))))), some (.inr (.inr (.inr (.inr (51, od))))), some (.inl (nI i)), some (.inl r.1), some (.inl w)] [] (rM M1 m F') nc' ns' := fun nc' ns' a1 a2 => LL.wk hw (hK _ nc' ns' ⟨F', (hN F' hP).eq (rM_eq (by omega)), rM_ie (fun c j c1 c2 => if_pos ⟨c1, c2⟩)⟩ a1 a2)
  refine ⟨⟨by show nc + 1 + 0 + 0 ≤ 601024; omega, by show ns + 6 + 0 + 0 ≤ 7293034; omega⟩, Ct.mono (cr_thrown hl0 M1 F') ?_⟩
  rintro o M3 ⟨rfl, rfl⟩
  refine ⟨fun _ => ⟨fun _ => fin _ _ (by show nc + 1 + 0 + 0 ≤ _; omega) (by show ns + 6 + 0 + 0 ≤ _; omega), fun hz => ⟨vp_in_iff.mpr (by decide), fun _ => fin _ _ (by show nc + 1 + 0 + 0 ≤ _; omega) (by show ns + 6 + 0 + 0 ≤ _; omega), fun hne => absurd ?_ hne⟩⟩, fun hne => absurd c0 hne⟩
  have hz' : r.1 = 0 := hz
  show lg_cmp (mL M1 oa 0) w.toInt64 = 0
  rw [hv hz', hw' hz']
  exact lg_self
set_option maxRecDepth 20000 in
theorem lc_load (hl0 : l.stackTraces = false) {b L x m oa od T i nc ns : Nat} {xs : Nat → Int32} {M : EM} {F : FM} {Q : EO → EM → Prop} {K : Nat → EK} (hc : e_clo (pgL_1 l g L xs) (e_ret sg_L_law Q) K) (hw : e_wk K) (hJ : JD M x F T) (hM : rM M m F = M) (hT : T + 100 < 2 ^ 20) (hl : x + 2232 ≤ m ∧ m + 14 ≤ oa ∧ m + 14 ≤ od) (hi : i + 7 ≤ L) (hL : L ≤ 3584) (hr : nc + 6 ≤ 601024 ∧ ns + 36 ≤ 7293034)
    (hK : ∀ M' nc' ns', (∃ F', JD M' x F' (T + 9) ∧ rM M' m F' = M') → nc' ≤ nc + 6 → ns' ≤ ns + 36 → K 2544 (LL b x m oa od i) [] M' nc' ns') : K 296 (LL b x m oa od i) [] M nc ns := by
  obtain ⟨r, Pf, hk, h1, h2⟩ := px_load hl0 hJ (m := m) (xs (nI i + 1).toNatClampNeg)
  refine e_step rfl hc 100 [2544] ?_
  refine ⟨⟨rfl, xin (k := 1) (by omega) hL⟩, ⟨by show nc + 2 ≤ 601024; omega, by show ns + 12 ≤ 7293034; omega⟩, CtH.mono (cw_load hl0 _ hk h1) ?_⟩
  rintro o M1 ⟨⟨hW⟩⟩
  obtain ⟨⟨e1, hN⟩, hv, rfl⟩ := WP.mid hW hM hl.1 hl.2.1 (fun M1 M2 hn he F' hF' => (hn F' hF').eq he)
  have h2' := h2 M1
  rw [e1] at h2'
  refine ⟨⟨rfl, xin (k := 1) (by omega) hL⟩, ⟨by show nc + 2 + 0 ≤ 601024; omega, by show ns + 12 + 0 ≤ 7293034; omega⟩, Ct.mono h2' ?_⟩
  rintro o M2 ⟨⟨F', ⟨rfl, c0⟩, ⟨w, rfl, hw'⟩, hP⟩⟩
  have fin : ∀ nc' ns', nc' ≤ nc + 6 → ns' ≤ ns + 36 → K 2544 [some (.inr (.inr (.inr (.inr (216, b))))), some (.inr (.inr (.inr (.inr (1, x))))), some (.inr (.inr (.inr (.inr (30, m))))), some (.inr (.inr (.inr (.inr (50, oa))))), some (.inr (.inr (.inr (.inr (51, od))))), some (.inl (nI i)), some (.inl r.1), some (.inl w)] [] (rM M1 m F') nc' ns' := fun nc' ns' a1 a2 => LL.wk hw (hK _ nc' ns' ⟨F', (hN F' hP).eq (rM_eq (by omega)), rM_ie (fun c j c1 c2 => if_pos ⟨c1, c2⟩)⟩ a1 a2)
  refine ⟨⟨by show nc + 2 + 0 + 0 ≤ 601024; omega, by show ns + 12 + 0 + 0 ≤ 7293034; omega⟩, Ct.mono (cr_thrown hl0 M1 F') ?_⟩
  rintro o M3 ⟨rfl, rfl⟩
  refine ⟨fun _ => ⟨fun _ => fin _ _ (by show nc + 2 + 0 + 0 ≤ _; omega) (by show ns + 12 + 0 + 0 ≤ _; omega), fun hz => ⟨vp_in_iff.mpr (by decide), fun _ => fin _ _ (by show nc + 2 + 0 + 0 ≤ _; omega) (by show ns + 12 + 0 + 0 ≤ _; omega), fun hne => absurd ?_ hne⟩⟩, fun hne => absurd c0 hne⟩
  have hz' : r.1 = 0 := hz
  show lg_cmp (mL M1 oa 0) w.toInt64 = 0
  rw [hv hz', hw' hz']
  exact lg_self
set_option maxRecDepth 20000 in
theorem lc_errorCode (hl0 : l.stackTraces = false) {b L x m oa od T i nc ns : Nat} {xs : Nat → Int32} {M : EM} {F : FM} {Q : EO → EM → Prop} {K : Nat → EK} (hc : e_clo (pgL_2 l g L xs) (e_ret sg_L_law Q) K) (hw : e_wk K) (hJ : JD M x F T) (hM : rM M m F = M) (hT : T + 100 < 2 ^ 20) (hl : x + 2232 ≤ m ∧ m + 14 ≤ oa ∧ m + 14 ≤ od) (hi : i + 7 ≤ L) (hL : L ≤ 3584) (hr : nc + 6 ≤ 601024 ∧ ns + 36 ≤ 7293034)
    (hK : ∀ M' nc' ns', (∃ F', JD M' x F' (T + 9) ∧ rM M' m F' = M') → nc' ≤ nc + 6 → ns' ≤ ns + 36 → K 2544 (LL b x m oa od i) [] M' nc' ns') : K 352 (LL b x m oa od i) [] M nc ns := by
  obtain ⟨nz, a', c', nb, B, h⟩ := hJ
  have hv : mI M (x + 1) 2 = F 0 16 := h.2.2.2.2.2.1.1
  refine e_step rfl hc 100 [2544] ?_
  refine ⟨⟨by show nc + 0 ≤ 601024; omega, by show ns + 0 ≤ 7293034; omega⟩, Ct.mono (cq_errorCode hl0 M) ?_⟩
  rintro o M1 ⟨⟨hf, ho⟩⟩
  have ho' : o = .inl (some (.inl (mI M (x + 1) 2))) := Eq.mp (if_pos (show (0 : Int32) = 0 from rfl)) ho
  subst ho'
  have e1 : rM M1 m F = M1 := rM_ie (fun c j c1 c2 => (hf.i (by omega) j).trans (rM_at hM c1 c2))
  have h2' := cr_errorCode (l := l) (g := g) hl0 M1 (m := m) F
  rw [e1] at h2'
  refine ⟨⟨by show nc + 0 + 0 ≤ 601024; omega, by show ns + 0 + 0 ≤ 7293034; omega⟩, Ct.mono h2' ?_⟩
  rintro o M2 ⟨F', rfl, hk, c0, w, rfl, hw'⟩
  refine ⟨fun _ => hK _ _ _ ⟨F', ⟨nz, a', c', nb, B, (((h.eq (hf.eq (by omega))).eq (rM_eq (by omega))).rk hk).T (by omega)⟩, rM_ie (fun c j c1 c2 => if_pos ⟨c1, c2⟩)⟩ (by show nc + 0 + 0 ≤ _; omega) (by show ns + 0 + 0 ≤ _; omega), fun hne => absurd ?_ hne⟩
  exact hv.trans (hw' rfl).symm
set_option maxRecDepth 20000 in
theorem lc_errorPosition (hl0 : l.stackTraces = false) {b L x m oa od T i nc ns : Nat} {xs : Nat → Int32} {M : EM} {F : FM} {Q : EO → EM → Prop} {K : Nat → EK} (hc : e_clo (pgL_3 l g L xs) (e_ret sg_L_law Q) K) (hw : e_wk K) (hJ : JD M x F T) (hM : rM M m F = M) (hT : T + 100 < 2 ^ 20) (hl : x + 2232 ≤ m ∧ m + 14 ≤ oa ∧ m + 14 ≤ od) (hi : i + 7 ≤ L) (hL : L ≤ 3584) (hr : nc + 6 ≤ 601024 ∧ ns + 36 ≤ 7293034)
    (hK : ∀ M' nc' ns', (∃ F', JD M' x F' (T + 9) ∧ rM M' m F' = M') → nc' ≤ nc + 6 → ns' ≤ ns + 36 → K 2544 (LL b x m oa od i) [] M' nc' ns') : K 365 (LL b x m oa od i) [] M nc ns := by
  obtain ⟨nz, a', c', nb, B, h⟩ := hJ
  have hv : mI M (x + 1) 3 = F 0 17 := h.2.2.2.2.2.1.2
  refine e_step rfl hc 100 [2544] ?_
  refine ⟨⟨by show nc + 0 ≤ 601024; omega, by show ns + 0 ≤ 7293034; omega⟩, Ct.mono (cq_errorPosition hl0 M) ?_⟩
  rintro o M1 ⟨⟨hf, ho⟩⟩
  have ho' : o = .inl (some (.inl (mI M (x + 1) 3))) := Eq.mp (if_pos (show (0 : Int32) = 0 from rfl)) ho
  subst ho'
  have e1 : rM M1 m F = M1 := rM_ie (fun c j c1 c2 => (hf.i (by omega) j).trans (rM_at hM c1 c2))
  have h2' := cr_errorPosition (l := l) (g := g) hl0 M1 (m := m) F
  rw [e1] at h2'
  refine ⟨⟨by show nc + 0 + 0 ≤ 601024; omega, by show ns + 0 + 0 ≤ 7293034; omega⟩, Ct.mono h2' ?_⟩
  rintro o M2 ⟨F', rfl, hk, c0, w, rfl, hw'⟩
  refine ⟨fun _ => hK _ _ _ ⟨F', ⟨nz, a', c', nb, B, (((h.eq (hf.eq (by omega))).eq (rM_eq (by omega))).rk hk).T (by omega)⟩, rM_ie (fun c j c1 c2 => if_pos ⟨c1, c2⟩)⟩ (by show nc + 0 + 0 ≤ _; omega) (by show ns + 0 + 0 ≤ _; omega), fun hne => absurd ?_ hne⟩
  exact hv.trans (hw' rfl).symm
set_option maxRecDepth 20000 in
theorem lc_day (hl0 : l.stackTraces = false) {b L x m oa od T i nc ns : Nat} {xs : Nat → Int32} {M : EM} {F : FM} {Q : EO → EM → Prop} {K : Nat → EK} (hc : e_clo (pgL_4 l g L xs) (e_ret sg_L_law Q) K) (hw : e_wk K) (hJ : JD M x F T) (hM : rM M m F = M) (hT : T + 100 < 2 ^ 20) (hl : x + 2232 ≤ m ∧ m + 14 ≤ oa ∧ m + 14 ≤ od) (hi : i + 7 ≤ L) (hL : L ≤ 3584) (hr : nc + 6 ≤ 601024 ∧ ns + 36 ≤ 7293034)
    (hK : ∀ M' nc' ns', (∃ F', JD M' x F' (T + 9) ∧ rM M' m F' = M') → nc' ≤ nc + 6 → ns' ≤ ns + 36 → K 2544 (LL b x m oa od i) [] M' nc' ns') : K 378 (LL b x m oa od i) [] M nc ns := by
  obtain ⟨r, Pf, hk, h1, h2⟩ := px_day hl0 hJ (m := m) (xs (nI i + 1).toNatClampNeg) (xs (nI i + 2).toNatClampNeg)
  refine e_step rfl hc 100 [2544] ?_
  refine ⟨⟨rfl, xin (k := 1) (by omega) hL⟩, ⟨rfl, xin (k := 2) (by omega) hL⟩, ⟨by show nc + 2 ≤ 601024; omega, by show ns + 12 ≤ 7293034; omega⟩, CtH.mono (cw_day hl0 _ _ hk h1) ?_⟩
  rintro o M1 ⟨⟨hW⟩⟩
  obtain ⟨⟨e1, hN⟩, hv, rfl⟩ := WP.mid hW hM hl.1 hl.2.1 (fun M1 M2 hn he F' hF' => (hn F' hF').eq he)
  have h2' := h2 M1
  rw [e1] at h2'
  refine ⟨⟨rfl, xin (k := 1) (by omega) hL⟩, ⟨rfl, xin (k := 2) (by omega) hL⟩, ⟨by show nc + 2 + 0 ≤ 601024; omega, by show ns + 12 + 0 ≤ 7293034; omega⟩, Ct.mono h2' ?_⟩
  rintro o M2 ⟨⟨F', ⟨rfl, c0⟩, ⟨w, rfl, hw'⟩, hP⟩⟩
  have fin : ∀ nc' ns', nc' ≤ nc + 6 → ns' ≤ ns + 36 → K 2544 [some (.inr (.inr (.inr (.inr (216, b))))), some (.inr (.inr (.inr (.inr (1, x))))), some (.inr (.inr (.inr (.inr (30, m))))), some (.inr (.inr (.inr (.inr (50, oa))))), some (.inr (.inr (.inr (.inr (51, od))))), some (.inl (nI i)), some (.inl r.1), some (.inl w)] [] (rM M1 m F') nc' ns' := fun nc' ns' a1 a2 => LL.wk hw (hK _ nc' ns' ⟨F', (hN F' hP).eq (rM_eq (by omega)), rM_ie (fun c j c1 c2 => if_pos ⟨c1, c2⟩)⟩ a1 a2)
  refine ⟨⟨by show nc + 2 + 0 + 0 ≤ 601024; omega, by show ns + 12 + 0 + 0 ≤ 7293034; omega⟩, Ct.mono (cr_thrown hl0 M1 F') ?_⟩
  rintro o M3 ⟨rfl, rfl⟩
  refine ⟨fun _ => ⟨fun _ => fin _ _ (by show nc + 2 + 0 + 0 ≤ _; omega) (by show ns + 12 + 0 + 0 ≤ _; omega), fun hz => ⟨vp_in_iff.mpr (by decide), fun _ => fin _ _ (by show nc + 2 + 0 + 0 ≤ _; omega) (by show ns + 12 + 0 + 0 ≤ _; omega), fun hne => absurd ?_ hne⟩⟩, fun hne => absurd c0 hne⟩
  have hz' : r.1 = 0 := hz
  show lg_cmp (mL M1 oa 0) w.toInt64 = 0
  rw [hv hz', hw' hz']
  exact lg_self
set_option maxRecDepth 20000 in
theorem lc_zone (hl0 : l.stackTraces = false) {b L x m oa od T i nc ns : Nat} {xs : Nat → Int32} {M : EM} {F : FM} {Q : EO → EM → Prop} {K : Nat → EK} (hc : e_clo (pgL_5 l g L xs) (e_ret sg_L_law Q) K) (hw : e_wk K) (hJ : JD M x F T) (hM : rM M m F = M) (hT : T + 100 < 2 ^ 20) (hl : x + 2232 ≤ m ∧ m + 14 ≤ oa ∧ m + 14 ≤ od) (hi : i + 7 ≤ L) (hL : L ≤ 3584) (hr : nc + 6 ≤ 601024 ∧ ns + 36 ≤ 7293034)
    (hK : ∀ M' nc' ns', (∃ F', JD M' x F' (T + 9) ∧ rM M' m F' = M') → nc' ≤ nc + 6 → ns' ≤ ns + 36 → K 2544 (LL b x m oa od i) [] M' nc' ns') : K 446 (LL b x m oa od i) [] M nc ns := by
  obtain ⟨r, Pf, hk, h1, h2⟩ := px_zone hl0 hJ (m := m) (xs (nI i + 1).toNatClampNeg) (xs (nI i + 2).toNatClampNeg) (xs (nI i + 3).toNatClampNeg)
  refine e_step rfl hc 100 [2544] ?_
  refine ⟨⟨rfl, xin (k := 1) (by omega) hL⟩, ⟨rfl, xin (k := 2) (by omega) hL⟩, ⟨rfl, xin (k := 3) (by omega) hL⟩, ⟨by show nc + 3 ≤ 601024; omega, by show ns + 18 ≤ 7293034; omega⟩, CtH.mono (cw_zone hl0 _ _ _ hk h1) ?_⟩
  rintro o M1 ⟨⟨hW⟩⟩
  obtain ⟨⟨e1, hN⟩, hv, rfl⟩ := WP.mid hW hM hl.1 hl.2.1 (fun M1 M2 hn he F' hF' => (hn F' hF').eq he)
  have h2' := h2 M1
  rw [e1] at h2'
  refine ⟨⟨rfl, xin (k := 1) (by omega) hL⟩, ⟨rfl, xin (k := 2) (by omega) hL⟩, ⟨rfl, xin (k := 3) (by omega) hL⟩, ⟨by show nc + 3 + 0 ≤ 601024; omega, by show ns + 18 + 0 ≤ 7293034; omega⟩, Ct.mono h2' ?_⟩
  rintro o M2 ⟨⟨F', ⟨rfl, c0⟩, ⟨w, rfl, hw'⟩, hP⟩⟩
  have fin : ∀ nc' ns', nc' ≤ nc + 6 → ns' ≤ ns + 36 → K 2544 [some (.inr (.inr (.inr (.inr (216, b))))), some (.inr (.inr (.inr (.inr (1, x))))), some (.inr (.inr (.inr (.inr (30, m))))), some (.inr (.inr (.inr (.inr (50, oa))))), some (.inr (.inr (.inr (.inr (51, od))))), some (.inl (nI i)), some (.inl r.1), some (.inl w)] [] (rM M1 m F') nc' ns' := fun nc' ns' a1 a2 => LL.wk hw (hK _ nc' ns' ⟨F', (hN F' hP).eq (rM_eq (by omega)), rM_ie (fun c j c1 c2 => if_pos ⟨c1, c2⟩)⟩ a1 a2)
  refine ⟨⟨by show nc + 3 + 0 + 0 ≤ 601024; omega, by show ns + 18 + 0 + 0 ≤ 7293034; omega⟩, Ct.mono (cr_thrown hl0 M1 F') ?_⟩
  rintro o M3 ⟨rfl, rfl⟩
  refine ⟨fun _ => ⟨fun _ => fin _ _ (by show nc + 3 + 0 + 0 ≤ _; omega) (by show ns + 18 + 0 + 0 ≤ _; omega), fun hz => ⟨vp_in_iff.mpr (by decide), fun _ => fin _ _ (by show nc + 3 + 0 + 0 ≤ _; omega) (by show ns + 18 + 0 + 0 ≤ _; omega), fun hne => absurd ?_ hne⟩⟩, fun hne => absurd c0 hne⟩
  have hz' : r.1 = 0 := hz
  show lg_cmp (mL M1 oa 0) w.toInt64 = 0
  rw [hv hz', hw' hz']
  exact lg_self
set_option maxRecDepth 20000 in
theorem lc_moment (hl0 : l.stackTraces = false) {b L x m oa od T i nc ns : Nat} {xs : Nat → Int32} {M : EM} {F : FM} {Q : EO → EM → Prop} {K : Nat → EK} (hc : e_clo (pgL_6 l g L xs) (e_ret sg_L_law Q) K) (hw : e_wk K) (hJ : JD M x F T) (hM : rM M m F = M) (hT : T + 100 < 2 ^ 20) (hl : x + 2232 ≤ m ∧ m + 14 ≤ oa ∧ m + 14 ≤ od) (hi : i + 7 ≤ L) (hL : L ≤ 3584) (hr : nc + 6 ≤ 601024 ∧ ns + 36 ≤ 7293034)
    (hK : ∀ M' nc' ns', (∃ F', JD M' x F' (T + 9) ∧ rM M' m F' = M') → nc' ≤ nc + 6 → ns' ≤ ns + 36 → K 2544 (LL b x m oa od i) [] M' nc' ns') : K 526 (LL b x m oa od i) [] M nc ns := by
  obtain ⟨r, Pf, hk, h1, h2⟩ := px_moment hl0 hJ (m := m) (xs (nI i + 1).toNatClampNeg) (xs (nI i + 2).toNatClampNeg) (xs (nI i + 3).toNatClampNeg) (xs (nI i + 4).toNatClampNeg)
  refine e_step rfl hc 100 [2544] ?_
  refine ⟨⟨rfl, xin (k := 1) (by omega) hL⟩, ⟨rfl, xin (k := 2) (by omega) hL⟩, ⟨rfl, xin (k := 3) (by omega) hL⟩, ⟨rfl, xin (k := 4) (by omega) hL⟩, ⟨by show nc + 3 ≤ 601024; omega, by show ns + 18 ≤ 7293034; omega⟩, CtH.mono (cw_moment hl0 _ _ _ _ hk h1) ?_⟩
  rintro o M1 ⟨⟨hW⟩⟩
  obtain ⟨⟨e1, hN⟩, hv, rfl⟩ := WP.mid hW hM hl.1 hl.2.1 (fun M1 M2 hn he F' hF' => (hn F' hF').eq he)
  have h2' := h2 M1
  rw [e1] at h2'
  refine ⟨⟨rfl, xin (k := 1) (by omega) hL⟩, ⟨rfl, xin (k := 2) (by omega) hL⟩, ⟨rfl, xin (k := 3) (by omega) hL⟩, ⟨rfl, xin (k := 4) (by omega) hL⟩, ⟨by show nc + 3 + 0 ≤ 601024; omega, by show ns + 18 + 0 ≤ 7293034; omega⟩, Ct.mono h2' ?_⟩
  rintro o M2 ⟨⟨F', ⟨rfl, c0⟩, ⟨w, rfl, hw'⟩, hP⟩⟩
  have fin : ∀ nc' ns', nc' ≤ nc + 6 → ns' ≤ ns + 36 → K 2544 [some (.inr (.inr (.inr (.inr (216, b))))), some (.inr (.inr (.inr (.inr (1, x))))), some (.inr (.inr (.inr (.inr (30, m))))), some (.inr (.inr (.inr (.inr (50, oa))))), some (.inr (.inr (.inr (.inr (51, od))))), some (.inl (nI i)), some (.inl r.1), some (.inl w)] [] (rM M1 m F') nc' ns' := fun nc' ns' a1 a2 => LL.wk hw (hK _ nc' ns' ⟨F', (hN F' hP).eq (rM_eq (by omega)), rM_ie (fun c j c1 c2 => if_pos ⟨c1, c2⟩)⟩ a1 a2)
  refine ⟨⟨by show nc + 3 + 0 + 0 ≤ 601024; omega, by show ns + 18 + 0 + 0 ≤ 7293034; omega⟩, Ct.mono (cr_thrown hl0 M1 F') ?_⟩
  rintro o M3 ⟨rfl, rfl⟩
  refine ⟨fun _ => ⟨fun _ => fin _ _ (by show nc + 3 + 0 + 0 ≤ _; omega) (by show ns + 18 + 0 + 0 ≤ _; omega), fun hz => ⟨vp_in_iff.mpr (by decide), fun _ => fin _ _ (by show nc + 3 + 0 + 0 ≤ _; omega) (by show ns + 18 + 0 + 0 ≤ _; omega), fun hne => absurd ?_ hne⟩⟩, fun hne => absurd c0 hne⟩
  have hz' : r.1 = 0 := hz
  show lg_cmp (mL M1 oa 0) w.toInt64 = 0
  rw [hv hz', hw' hz']
  exact lg_self
set_option maxRecDepth 20000 in
theorem lc_events (hl0 : l.stackTraces = false) {b L x m oa od T i nc ns : Nat} {xs : Nat → Int32} {M : EM} {F : FM} {Q : EO → EM → Prop} {K : Nat → EK} (hc : e_clo (pgL_7 l g L xs) (e_ret sg_L_law Q) K) (hw : e_wk K) (hJ : JD M x F T) (hM : rM M m F = M) (hT : T + 100 < 2 ^ 20) (hl : x + 2232 ≤ m ∧ m + 14 ≤ oa ∧ m + 14 ≤ od) (hi : i + 7 ≤ L) (hL : L ≤ 3584) (hr : nc + 6 ≤ 601024 ∧ ns + 36 ≤ 7293034)
    (hK : ∀ M' nc' ns', (∃ F', JD M' x F' (T + 9) ∧ rM M' m F' = M') → nc' ≤ nc + 6 → ns' ≤ ns + 36 → K 2544 (LL b x m oa od i) [] M' nc' ns') : K 618 (LL b x m oa od i) [] M nc ns := by
  obtain ⟨r, Pf, hk, h1, h2⟩ := px_events hl0 hJ (m := m) (xs (nI i + 1).toNatClampNeg)
  refine e_step rfl hc 100 [2544] ?_
  refine ⟨⟨rfl, xin (k := 1) (by omega) hL⟩, ⟨by show nc + 1 ≤ 601024; omega, by show ns + 6 ≤ 7293034; omega⟩, CtH.mono (cw_events hl0 _ hk h1) ?_⟩
  rintro o M1 ⟨⟨hW⟩⟩
  obtain ⟨⟨e1, hN⟩, hv, rfl⟩ := WP.mid hW hM hl.1 hl.2.1 (fun M1 M2 hn he F' hF' => (hn F' hF').eq he)
  have h2' := h2 M1
  rw [e1] at h2'
  refine ⟨⟨rfl, xin (k := 1) (by omega) hL⟩, ⟨by show nc + 1 + 0 ≤ 601024; omega, by show ns + 6 + 0 ≤ 7293034; omega⟩, Ct.mono h2' ?_⟩
  rintro o M2 ⟨⟨F', ⟨rfl, c0⟩, ⟨w, rfl, hw'⟩, hP⟩⟩
  have fin : ∀ nc' ns', nc' ≤ nc + 6 → ns' ≤ ns + 36 → K 2544 [some (.inr (.inr (.inr (.inr (216, b))))), some (.inr (.inr (.inr (.inr (1, x))))), some (.inr (.inr (.inr (.inr (30, m))))), some (.inr (.inr (.inr (.inr (50, oa))))), some (.inr (.inr (.inr (.inr (51, od))))), some (.inl (nI i)), some (.inl r.1), some (.inl w)] [] (rM M1 m F') nc' ns' := fun nc' ns' a1 a2 => LL.wk hw (hK _ nc' ns' ⟨F', (hN F' hP).eq (rM_eq (by omega)), rM_ie (fun c j c1 c2 => if_pos ⟨c1, c2⟩)⟩ a1 a2)
  refine ⟨⟨by show nc + 1 + 0 + 0 ≤ 601024; omega, by show ns + 6 + 0 + 0 ≤ 7293034; omega⟩, Ct.mono (cr_thrown hl0 M1 F') ?_⟩
  rintro o M3 ⟨rfl, rfl⟩
  refine ⟨fun _ => ⟨fun _ => fin _ _ (by show nc + 1 + 0 + 0 ≤ _; omega) (by show ns + 6 + 0 + 0 ≤ _; omega), fun hz => ⟨vp_in_iff.mpr (by decide), fun _ => fin _ _ (by show nc + 1 + 0 + 0 ≤ _; omega) (by show ns + 6 + 0 + 0 ≤ _; omega), fun hne => absurd ?_ hne⟩⟩, fun hne => absurd c0 hne⟩
  have hz' : r.1 = 0 := hz
  show lg_cmp (mL M1 oa 0) w.toInt64 = 0
  rw [hv hz', hw' hz']
  exact lg_self
set_option maxRecDepth 20000 in
theorem lc_event (hl0 : l.stackTraces = false) {b L x m oa od T i nc ns : Nat} {xs : Nat → Int32} {M : EM} {F : FM} {Q : EO → EM → Prop} {K : Nat → EK} (hc : e_clo (pgL_8 l g L xs) (e_ret sg_L_law Q) K) (hw : e_wk K) (hJ : JD M x F T) (hM : rM M m F = M) (hT : T + 100 < 2 ^ 20) (hl : x + 2232 ≤ m ∧ m + 14 ≤ oa ∧ m + 14 ≤ od) (hi : i + 7 ≤ L) (hL : L ≤ 3584) (hr : nc + 6 ≤ 601024 ∧ ns + 36 ≤ 7293034)
    (hK : ∀ M' nc' ns', (∃ F', JD M' x F' (T + 9) ∧ rM M' m F' = M') → nc' ≤ nc + 6 → ns' ≤ ns + 36 → K 2544 (LL b x m oa od i) [] M' nc' ns') : K 674 (LL b x m oa od i) [] M nc ns := by
  obtain ⟨r, Pf, hk, h1, h2⟩ := px_event hl0 hJ (m := m) (xs (nI i + 1).toNatClampNeg) (xs (nI i + 2).toNatClampNeg) (xs (nI i + 3).toNatClampNeg)
  refine e_step rfl hc 100 [2544] ?_
  refine ⟨⟨rfl, xin (k := 1) (by omega) hL⟩, ⟨rfl, xin (k := 2) (by omega) hL⟩, ⟨rfl, xin (k := 3) (by omega) hL⟩, ⟨by show nc + 3 ≤ 601024; omega, by show ns + 18 ≤ 7293034; omega⟩, CtH.mono (cw_event hl0 _ _ _ hk h1) ?_⟩
  rintro o M1 ⟨⟨hW⟩⟩
  obtain ⟨⟨e1, hN⟩, hv, rfl⟩ := WP.mid hW hM hl.1 hl.2.1 (fun M1 M2 hn he F' hF' => (hn F' hF').eq he)
  have h2' := h2 M1
  rw [e1] at h2'
  refine ⟨⟨rfl, xin (k := 1) (by omega) hL⟩, ⟨rfl, xin (k := 2) (by omega) hL⟩, ⟨rfl, xin (k := 3) (by omega) hL⟩, ⟨by show nc + 3 + 0 ≤ 601024; omega, by show ns + 18 + 0 ≤ 7293034; omega⟩, Ct.mono h2' ?_⟩
  rintro o M2 ⟨⟨F', ⟨rfl, c0⟩, ⟨w, rfl, hw'⟩, hP⟩⟩
  have fin : ∀ nc' ns', nc' ≤ nc + 6 → ns' ≤ ns + 36 → K 2544 [some (.inr (.inr (.inr (.inr (216, b))))), some (.inr (.inr (.inr (.inr (1, x))))), some (.inr (.inr (.inr (.inr (30, m))))), some (.inr (.inr (.inr (.inr (50, oa))))), some (.inr (.inr (.inr (.inr (51, od))))), some (.inl (nI i)), some (.inl r.1), some (.inl w)] [] (rM M1 m F') nc' ns' := fun nc' ns' a1 a2 => LL.wk hw (hK _ nc' ns' ⟨F', (hN F' hP).eq (rM_eq (by omega)), rM_ie (fun c j c1 c2 => if_pos ⟨c1, c2⟩)⟩ a1 a2)
  refine ⟨⟨by show nc + 3 + 0 + 0 ≤ 601024; omega, by show ns + 18 + 0 + 0 ≤ 7293034; omega⟩, Ct.mono (cr_thrown hl0 M1 F') ?_⟩
  rintro o M3 ⟨rfl, rfl⟩
  refine ⟨fun _ => ⟨fun _ => fin _ _ (by show nc + 3 + 0 + 0 ≤ _; omega) (by show ns + 18 + 0 + 0 ≤ _; omega), fun hz => ⟨vp_in_iff.mpr (by decide), fun _ => fin _ _ (by show nc + 3 + 0 + 0 ≤ _; omega) (by show ns + 18 + 0 + 0 ≤ _; omega), fun hne => absurd ?_ hne⟩⟩, fun hne => absurd c0 hne⟩
  have hz' : r.1 = 0 := hz
  show lg_cmp (mL M1 oa 0) w.toInt64 = 0
  rw [hv hz', hw' hz']
  exact lg_self
set_option maxRecDepth 20000 in
theorem lc_date (hl0 : l.stackTraces = false) {b L x m oa od T i nc ns : Nat} {xs : Nat → Int32} {M : EM} {F : FM} {Q : EO → EM → Prop} {K : Nat → EK} (hc : e_clo (pgL_9 l g L xs) (e_ret sg_L_law Q) K) (hw : e_wk K) (hJ : JD M x F T) (hM : rM M m F = M) (hT : T + 100 < 2 ^ 20) (hl : x + 2232 ≤ m ∧ m + 14 ≤ oa ∧ m + 14 ≤ od) (hi : i + 7 ≤ L) (hL : L ≤ 3584) (hr : nc + 6 ≤ 601024 ∧ ns + 36 ≤ 7293034)
    (hK : ∀ M' nc' ns', (∃ F', JD M' x F' (T + 9) ∧ rM M' m F' = M') → nc' ≤ nc + 6 → ns' ≤ ns + 36 → K 2544 (LL b x m oa od i) [] M' nc' ns') : K 754 (LL b x m oa od i) [] M nc ns := by
  obtain ⟨r, Pf, hk, h1, h2⟩ := px_date hl0 hJ (m := m) (xs (nI i + 1).toNatClampNeg) (xs (nI i + 2).toNatClampNeg) (xs (nI i + 3).toNatClampNeg) (xs (nI i + 4).toNatClampNeg)
  refine e_step rfl hc 100 [2544] ?_
  refine ⟨⟨rfl, xin (k := 1) (by omega) hL⟩, ⟨rfl, xin (k := 2) (by omega) hL⟩, ⟨rfl, xin (k := 3) (by omega) hL⟩, ⟨rfl, xin (k := 4) (by omega) hL⟩, ⟨by show nc + 4 ≤ 601024; omega, by show ns + 24 ≤ 7293034; omega⟩, CtH.mono (cw_date hl0 _ _ _ _ hk h1) ?_⟩
  rintro o M1 ⟨⟨hW⟩⟩
  obtain ⟨⟨e1, hN⟩, hv, rfl⟩ := WP.mid hW hM hl.1 hl.2.1 (fun M1 M2 hn he F' hF' => (hn F' hF').eq he)
  have h2' := h2 M1
  rw [e1] at h2'
  refine ⟨⟨rfl, xin (k := 1) (by omega) hL⟩, ⟨rfl, xin (k := 2) (by omega) hL⟩, ⟨rfl, xin (k := 3) (by omega) hL⟩, ⟨rfl, xin (k := 4) (by omega) hL⟩, ⟨by show nc + 4 + 0 ≤ 601024; omega, by show ns + 24 + 0 ≤ 7293034; omega⟩, Ct.mono h2' ?_⟩
  rintro o M2 ⟨⟨F', ⟨rfl, c0⟩, ⟨w, rfl, hw'⟩, hP⟩⟩
  have fin : ∀ nc' ns', nc' ≤ nc + 6 → ns' ≤ ns + 36 → K 2544 [some (.inr (.inr (.inr (.inr (216, b))))), some (.inr (.inr (.inr (.inr (1, x))))), some (.inr (.inr (.inr (.inr (30, m))))), some (.inr (.inr (.inr (.inr (50, oa))))), some (.inr (.inr (.inr (.inr (51, od))))), some (.inl (nI i)), some (.inl r.1), some (.inl w)] [] (rM M1 m F') nc' ns' := fun nc' ns' a1 a2 => LL.wk hw (hK _ nc' ns' ⟨F', (hN F' hP).eq (rM_eq (by omega)), rM_ie (fun c j c1 c2 => if_pos ⟨c1, c2⟩)⟩ a1 a2)
  refine ⟨⟨by show nc + 4 + 0 + 0 ≤ 601024; omega, by show ns + 24 + 0 + 0 ≤ 7293034; omega⟩, Ct.mono (cr_thrown hl0 M1 F') ?_⟩
  rintro o M3 ⟨rfl, rfl⟩
  refine ⟨fun _ => ⟨fun _ => fin _ _ (by show nc + 4 + 0 + 0 ≤ _; omega) (by show ns + 24 + 0 + 0 ≤ _; omega), fun hz => ⟨vp_in_iff.mpr (by decide), fun _ => fin _ _ (by show nc + 4 + 0 + 0 ≤ _; omega) (by show ns + 24 + 0 + 0 ≤ _; omega), fun hne => absurd ?_ hne⟩⟩, fun hne => absurd c0 hne⟩
  have hz' : r.1 = 0 := hz
  show lg_cmp (mL M1 oa 0) w.toInt64 = 0
  rw [hv hz', hw' hz']
  exact lg_self
set_option maxRecDepth 20000 in
theorem lc_answer (hl0 : l.stackTraces = false) {b L x m oa od T i nc ns : Nat} {xs : Nat → Int32} {M : EM} {F : FM} {Q : EO → EM → Prop} {K : Nat → EK} (hc : e_clo (pgL_10 l g L xs) (e_ret sg_L_law Q) K) (hw : e_wk K) (hJ : JD M x F T) (hM : rM M m F = M) (hT : T + 100 < 2 ^ 20) (hl : x + 2232 ≤ m ∧ m + 14 ≤ oa ∧ m + 14 ≤ od) (hi : i + 7 ≤ L) (hL : L ≤ 3584) (hr : nc + 6 ≤ 601024 ∧ ns + 36 ≤ 7293034)
    (hK : ∀ M' nc' ns', (∃ F', JD M' x F' (T + 9) ∧ rM M' m F' = M') → nc' ≤ nc + 6 → ns' ≤ ns + 36 → K 2544 (LL b x m oa od i) [] M' nc' ns') : K 846 (LL b x m oa od i) [] M nc ns := by
  obtain ⟨r, Pf, hk, h1, h2⟩ := px_answer hl0 hJ (m := m) (xs (nI i + 1).toNatClampNeg) (xs (nI i + 2).toNatClampNeg) (xs (nI i + 3).toNatClampNeg)
  refine e_step rfl hc 100 [2544] ?_
  refine ⟨⟨rfl, xin (k := 1) (by omega) hL⟩, ⟨rfl, xin (k := 2) (by omega) hL⟩, ⟨rfl, xin (k := 3) (by omega) hL⟩, ⟨by show nc + 3 ≤ 601024; omega, by show ns + 18 ≤ 7293034; omega⟩, CtH.mono (cw_answer hl0 _ _ _ hk h1) ?_⟩
  rintro o M1 ⟨⟨hW⟩⟩
  obtain ⟨⟨e1, hN⟩, hv, rfl⟩ := WP.mid hW hM hl.1 hl.2.1 (fun M1 M2 hn he F' hF' => (hn F' hF').eq he)
  have h2' := h2 M1
  rw [e1] at h2'
  refine ⟨⟨rfl, xin (k := 1) (by omega) hL⟩, ⟨rfl, xin (k := 2) (by omega) hL⟩, ⟨rfl, xin (k := 3) (by omega) hL⟩, ⟨by show nc + 3 + 0 ≤ 601024; omega, by show ns + 18 + 0 ≤ 7293034; omega⟩, Ct.mono h2' ?_⟩
  rintro o M2 ⟨⟨F', ⟨rfl, c0⟩, ⟨w, rfl, hw'⟩, hP⟩⟩
  have fin : ∀ nc' ns', nc' ≤ nc + 6 → ns' ≤ ns + 36 → K 2544 [some (.inr (.inr (.inr (.inr (216, b))))), some (.inr (.inr (.inr (.inr (1, x))))), some (.inr (.inr (.inr (.inr (30, m))))), some (.inr (.inr (.inr (.inr (50, oa))))), some (.inr (.inr (.inr (.inr (51, od))))), some (.inl (nI i)), some (.inl r.1), some (.inl w)] [] (rM M1 m F') nc' ns' := fun nc' ns' a1 a2 => LL.wk hw (hK _ nc' ns' ⟨F', (hN F' hP).eq (rM_eq (by omega)), rM_ie (fun c j c1 c2 => if_pos ⟨c1, c2⟩)⟩ a1 a2)
  refine ⟨⟨by show nc + 3 + 0 + 0 ≤ 601024; omega, by show ns + 18 + 0 + 0 ≤ 7293034; omega⟩, Ct.mono (cr_thrown hl0 M1 F') ?_⟩
  rintro o M3 ⟨rfl, rfl⟩
  refine ⟨fun _ => ⟨fun _ => fin _ _ (by show nc + 3 + 0 + 0 ≤ _; omega) (by show ns + 18 + 0 + 0 ≤ _; omega), fun hz => ⟨vp_in_iff.mpr (by decide), fun _ => fin _ _ (by show nc + 3 + 0 + 0 ≤ _; omega) (by show ns + 18 + 0 + 0 ≤ _; omega), fun hne => absurd ?_ hne⟩⟩, fun hne => absurd c0 hne⟩
  have hz' : r.1 = 0 := hz
  show lg_cmp (mL M1 oa 0) w.toInt64 = 0
  rw [hv hz', hw' hz']
  exact lg_self
set_option maxRecDepth 20000 in
theorem lc_agenda (hl0 : l.stackTraces = false) {b L x m oa od T i nc ns : Nat} {xs : Nat → Int32} {M : EM} {F : FM} {Q : EO → EM → Prop} {K : Nat → EK} (hc : e_clo (pgL_11 l g L xs) (e_ret sg_L_law Q) K) (hw : e_wk K) (hJ : JD M x F T) (hM : rM M m F = M) (hT : T + 100 < 2 ^ 20) (hl : x + 2232 ≤ m ∧ m + 14 ≤ oa ∧ m + 14 ≤ od) (hi : i + 7 ≤ L) (hL : L ≤ 3584) (hr : nc + 6 ≤ 601024 ∧ ns + 36 ≤ 7293034)
    (hK : ∀ M' nc' ns', (∃ F', JD M' x F' (T + 9) ∧ rM M' m F' = M') → nc' ≤ nc + 6 → ns' ≤ ns + 36 → K 2544 (LL b x m oa od i) [] M' nc' ns') : K 926 (LL b x m oa od i) [] M nc ns := by
  obtain ⟨r, Pf, hk, h1, h2⟩ := px_agenda hl0 hJ (m := m) (xs (nI i + 1).toNatClampNeg) (xs (nI i + 2).toNatClampNeg) (xs (nI i + 3).toNatClampNeg)
  refine e_step rfl hc 100 [2544] ?_
  refine ⟨⟨rfl, xin (k := 1) (by omega) hL⟩, ⟨rfl, xin (k := 2) (by omega) hL⟩, ⟨rfl, xin (k := 3) (by omega) hL⟩, ⟨by show nc + 1 ≤ 601024; omega, by show ns + 6 ≤ 7293034; omega⟩, CtH.mono (cw_agenda hl0 _ _ _ hk h1) ?_⟩
  rintro o M1 ⟨⟨hW⟩⟩
  obtain ⟨⟨e1, hN⟩, hv, rfl⟩ := WP.mid hW hM hl.1 hl.2.1 (fun M1 M2 hn he F' hF' => (hn F' hF').eq he)
  have h2' := h2 M1
  rw [e1] at h2'
  refine ⟨⟨rfl, xin (k := 1) (by omega) hL⟩, ⟨rfl, xin (k := 2) (by omega) hL⟩, ⟨rfl, xin (k := 3) (by omega) hL⟩, ⟨by show nc + 1 + 0 ≤ 601024; omega, by show ns + 6 + 0 ≤ 7293034; omega⟩, Ct.mono h2' ?_⟩
  rintro o M2 ⟨⟨F', ⟨rfl, c0⟩, ⟨w, rfl, hw'⟩, hP⟩⟩
  have fin : ∀ nc' ns', nc' ≤ nc + 6 → ns' ≤ ns + 36 → K 2544 [some (.inr (.inr (.inr (.inr (216, b))))), some (.inr (.inr (.inr (.inr (1, x))))), some (.inr (.inr (.inr (.inr (30, m))))), some (.inr (.inr (.inr (.inr (50, oa))))), some (.inr (.inr (.inr (.inr (51, od))))), some (.inl (nI i)), some (.inl r.1), some (.inl w)] [] (rM M1 m F') nc' ns' := fun nc' ns' a1 a2 => LL.wk hw (hK _ nc' ns' ⟨F', (hN F' hP).eq (rM_eq (by omega)), rM_ie (fun c j c1 c2 => if_pos ⟨c1, c2⟩)⟩ a1 a2)
  refine ⟨⟨by show nc + 1 + 0 + 0 ≤ 601024; omega, by show ns + 6 + 0 + 0 ≤ 7293034; omega⟩, Ct.mono (cr_thrown hl0 M1 F') ?_⟩
  rintro o M3 ⟨rfl, rfl⟩
  refine ⟨fun _ => ⟨fun _ => fin _ _ (by show nc + 1 + 0 + 0 ≤ _; omega) (by show ns + 6 + 0 + 0 ≤ _; omega), fun hz => ⟨vp_in_iff.mpr (by decide), fun _ => fin _ _ (by show nc + 1 + 0 + 0 ≤ _; omega) (by show ns + 6 + 0 + 0 ≤ _; omega), fun hne => absurd ?_ hne⟩⟩, fun hne => absurd c0 hne⟩
  have hz' : r.1 = 0 := hz
  show lg_cmp (mL M1 oa 0) w.toInt64 = 0
  rw [hv hz', hw' hz']
  exact lg_self
set_option maxRecDepth 20000 in
theorem lc_agendaAt (hl0 : l.stackTraces = false) {b L x m oa od T i nc ns : Nat} {xs : Nat → Int32} {M : EM} {F : FM} {Q : EO → EM → Prop} {K : Nat → EK} (hc : e_clo (pgL_12 l g L xs) (e_ret sg_L_law Q) K) (hw : e_wk K) (hJ : JD M x F T) (hM : rM M m F = M) (hT : T + 100 < 2 ^ 20) (hl : x + 2232 ≤ m ∧ m + 14 ≤ oa ∧ m + 14 ≤ od) (hi : i + 7 ≤ L) (hL : L ≤ 3584) (hr : nc + 6 ≤ 601024 ∧ ns + 36 ≤ 7293034)
    (hK : ∀ M' nc' ns', (∃ F', JD M' x F' (T + 9) ∧ rM M' m F' = M') → nc' ≤ nc + 6 → ns' ≤ ns + 36 → K 2544 (LL b x m oa od i) [] M' nc' ns') : K 1006 (LL b x m oa od i) [] M nc ns := by
  obtain ⟨r, Pf, hk, h1, h2⟩ := px_agendaAt hl0 hJ (m := m) (xs (nI i + 1).toNatClampNeg) (xs (nI i + 2).toNatClampNeg) (xs (nI i + 3).toNatClampNeg) (xs (nI i + 4).toNatClampNeg)
  refine e_step rfl hc 100 [2544] ?_
  refine ⟨⟨rfl, xin (k := 1) (by omega) hL⟩, ⟨rfl, xin (k := 2) (by omega) hL⟩, ⟨rfl, xin (k := 3) (by omega) hL⟩, ⟨rfl, xin (k := 4) (by omega) hL⟩, ⟨by show nc + 3 ≤ 601024; omega, by show ns + 18 ≤ 7293034; omega⟩, CtH.mono (cw_agendaAt hl0 _ _ _ _ hk h1) ?_⟩
  rintro o M1 ⟨⟨hW⟩⟩
  obtain ⟨⟨e1, hN⟩, hv, rfl⟩ := WP.mid hW hM hl.1 hl.2.1 (fun M1 M2 hn he F' hF' => (hn F' hF').eq he)
  have h2' := h2 M1
  rw [e1] at h2'
  refine ⟨⟨rfl, xin (k := 1) (by omega) hL⟩, ⟨rfl, xin (k := 2) (by omega) hL⟩, ⟨rfl, xin (k := 3) (by omega) hL⟩, ⟨rfl, xin (k := 4) (by omega) hL⟩, ⟨by show nc + 3 + 0 ≤ 601024; omega, by show ns + 18 + 0 ≤ 7293034; omega⟩, Ct.mono h2' ?_⟩
  rintro o M2 ⟨⟨F', ⟨rfl, c0⟩, ⟨w, rfl, hw'⟩, hP⟩⟩
  have fin : ∀ nc' ns', nc' ≤ nc + 6 → ns' ≤ ns + 36 → K 2544 [some (.inr (.inr (.inr (.inr (216, b))))), some (.inr (.inr (.inr (.inr (1, x))))), some (.inr (.inr (.inr (.inr (30, m))))), some (.inr (.inr (.inr (.inr (50, oa))))), some (.inr (.inr (.inr (.inr (51, od))))), some (.inl (nI i)), some (.inl r.1), some (.inl w)] [] (rM M1 m F') nc' ns' := fun nc' ns' a1 a2 => LL.wk hw (hK _ nc' ns' ⟨F', (hN F' hP).eq (rM_eq (by omega)), rM_ie (fun c j c1 c2 => if_pos ⟨c1, c2⟩)⟩ a1 a2)
  refine ⟨⟨by show nc + 3 + 0 + 0 ≤ 601024; omega, by show ns + 18 + 0 + 0 ≤ 7293034; omega⟩, Ct.mono (cr_thrown hl0 M1 F') ?_⟩
  rintro o M3 ⟨rfl, rfl⟩
  refine ⟨fun _ => ⟨fun _ => fin _ _ (by show nc + 3 + 0 + 0 ≤ _; omega) (by show ns + 18 + 0 + 0 ≤ _; omega), fun hz => ⟨vp_in_iff.mpr (by decide), fun _ => fin _ _ (by show nc + 3 + 0 + 0 ≤ _; omega) (by show ns + 18 + 0 + 0 ≤ _; omega), fun hne => absurd ?_ hne⟩⟩, fun hne => absurd c0 hne⟩
  have hz' : r.1 = 0 := hz
  show lg_cmp (mL M1 oa 0) w.toInt64 = 0
  rw [hv hz', hw' hz']
  exact lg_self
set_option maxRecDepth 20000 in
theorem lc_clashes (hl0 : l.stackTraces = false) {b L x m oa od T i nc ns : Nat} {xs : Nat → Int32} {M : EM} {F : FM} {Q : EO → EM → Prop} {K : Nat → EK} (hc : e_clo (pgL_13 l g L xs) (e_ret sg_L_law Q) K) (hw : e_wk K) (hJ : JD M x F T) (hM : rM M m F = M) (hT : T + 100 < 2 ^ 20) (hl : x + 2232 ≤ m ∧ m + 14 ≤ oa ∧ m + 14 ≤ od) (hi : i + 7 ≤ L) (hL : L ≤ 3584) (hr : nc + 6 ≤ 601024 ∧ ns + 36 ≤ 7293034)
    (hK : ∀ M' nc' ns', (∃ F', JD M' x F' (T + 9) ∧ rM M' m F' = M') → nc' ≤ nc + 6 → ns' ≤ ns + 36 → K 2544 (LL b x m oa od i) [] M' nc' ns') : K 1098 (LL b x m oa od i) [] M nc ns := by
  obtain ⟨r, Pf, hk, h1, h2⟩ := px_clashes hl0 hJ (m := m) (xs (nI i + 1).toNatClampNeg)
  refine e_step rfl hc 100 [2544] ?_
  refine ⟨⟨rfl, xin (k := 1) (by omega) hL⟩, ⟨by show nc + 1 ≤ 601024; omega, by show ns + 6 ≤ 7293034; omega⟩, CtH.mono (cw_clashes hl0 _ hk h1) ?_⟩
  rintro o M1 ⟨⟨hW⟩⟩
  obtain ⟨⟨e1, hN⟩, hv, rfl⟩ := WP.mid hW hM hl.1 hl.2.1 (fun M1 M2 hn he F' hF' => (hn F' hF').eq he)
  have h2' := h2 M1
  rw [e1] at h2'
  refine ⟨⟨rfl, xin (k := 1) (by omega) hL⟩, ⟨by show nc + 1 + 0 ≤ 601024; omega, by show ns + 6 + 0 ≤ 7293034; omega⟩, Ct.mono h2' ?_⟩
  rintro o M2 ⟨⟨F', ⟨rfl, c0⟩, ⟨w, rfl, hw'⟩, hP⟩⟩
  have fin : ∀ nc' ns', nc' ≤ nc + 6 → ns' ≤ ns + 36 → K 2544 [some (.inr (.inr (.inr (.inr (216, b))))), some (.inr (.inr (.inr (.inr (1, x))))), some (.inr (.inr (.inr (.inr (30, m))))), some (.inr (.inr (.inr (.inr (50, oa))))), some (.inr (.inr (.inr (.inr (51, od))))), some (.inl (nI i)), some (.inl r.1), some (.inl w)] [] (rM M1 m F') nc' ns' := fun nc' ns' a1 a2 => LL.wk hw (hK _ nc' ns' ⟨F', (hN F' hP).eq (rM_eq (by omega)), rM_ie (fun c j c1 c2 => if_pos ⟨c1, c2⟩)⟩ a1 a2)
  refine ⟨⟨by show nc + 1 + 0 + 0 ≤ 601024; omega, by show ns + 6 + 0 + 0 ≤ 7293034; omega⟩, Ct.mono (cr_thrown hl0 M1 F') ?_⟩
  rintro o M3 ⟨rfl, rfl⟩
  refine ⟨fun _ => ⟨fun _ => fin _ _ (by show nc + 1 + 0 + 0 ≤ _; omega) (by show ns + 6 + 0 + 0 ≤ _; omega), fun hz => ⟨vp_in_iff.mpr (by decide), fun _ => fin _ _ (by show nc + 1 + 0 + 0 ≤ _; omega) (by show ns + 6 + 0 + 0 ≤ _; omega), fun hne => absurd ?_ hne⟩⟩, fun hne => absurd c0 hne⟩
  have hz' : r.1 = 0 := hz
  show lg_cmp (mL M1 oa 0) w.toInt64 = 0
  rw [hv hz', hw' hz']
  exact lg_self
set_option maxRecDepth 20000 in
theorem lc_busyBits (hl0 : l.stackTraces = false) {b L x m oa od T i nc ns : Nat} {xs : Nat → Int32} {M : EM} {F : FM} {Q : EO → EM → Prop} {K : Nat → EK} (hc : e_clo (pgL_15 l g L xs) (e_ret sg_L_law Q) K) (hw : e_wk K) (hJ : JD M x F T) (hM : rM M m F = M) (hT : T + 100 < 2 ^ 20) (hl : x + 2232 ≤ m ∧ m + 14 ≤ oa ∧ m + 14 ≤ od) (hi : i + 7 ≤ L) (hL : L ≤ 3584) (hr : nc + 6 ≤ 601024 ∧ ns + 36 ≤ 7293034)
    (hK : ∀ M' nc' ns', (∃ F', JD M' x F' (T + 9) ∧ rM M' m F' = M') → nc' ≤ nc + 6 → ns' ≤ ns + 36 → K 2544 (LL b x m oa od i) [] M' nc' ns') : K 1256 (LL b x m oa od i) [] M nc ns := by
  obtain ⟨r, Pf, hk, h1, h2⟩ := px_busyBits hl0 hJ (m := m) (xs (nI i + 1).toNatClampNeg) (xs (nI i + 2).toNatClampNeg) (xs (nI i + 3).toNatClampNeg)
  refine e_step rfl hc 100 [2544] ?_
  refine ⟨⟨rfl, xin (k := 1) (by omega) hL⟩, ⟨rfl, xin (k := 2) (by omega) hL⟩, ⟨rfl, xin (k := 3) (by omega) hL⟩, ⟨by show nc + 2 ≤ 601024; omega, by show ns + 12 ≤ 7293034; omega⟩, CtH.mono (cw_busyBits hl0 _ _ _ hk h1) ?_⟩
  rintro o M1 ⟨⟨hW⟩⟩
  obtain ⟨⟨e1, hN⟩, hv, rfl⟩ := WP.mid hW hM hl.1 hl.2.1 (fun M1 M2 hn he F' hF' => (hn F' hF').eq he)
  have h2' := h2 M1
  rw [e1] at h2'
  refine ⟨⟨rfl, xin (k := 1) (by omega) hL⟩, ⟨rfl, xin (k := 2) (by omega) hL⟩, ⟨rfl, xin (k := 3) (by omega) hL⟩, ⟨by show nc + 2 + 0 ≤ 601024; omega, by show ns + 12 + 0 ≤ 7293034; omega⟩, Ct.mono h2' ?_⟩
  rintro o M2 ⟨⟨F', ⟨rfl, c0⟩, ⟨w, rfl, hw'⟩, hP⟩⟩
  have fin : ∀ nc' ns', nc' ≤ nc + 6 → ns' ≤ ns + 36 → K 2544 [some (.inr (.inr (.inr (.inr (216, b))))), some (.inr (.inr (.inr (.inr (1, x))))), some (.inr (.inr (.inr (.inr (30, m))))), some (.inr (.inr (.inr (.inr (50, oa))))), some (.inr (.inr (.inr (.inr (51, od))))), some (.inl (nI i)), some (.inl r.1), some (.inl w)] [] (rM M1 m F') nc' ns' := fun nc' ns' a1 a2 => LL.wk hw (hK _ nc' ns' ⟨F', (hN F' hP).eq (rM_eq (by omega)), rM_ie (fun c j c1 c2 => if_pos ⟨c1, c2⟩)⟩ a1 a2)
  refine ⟨⟨by show nc + 2 + 0 + 0 ≤ 601024; omega, by show ns + 12 + 0 + 0 ≤ 7293034; omega⟩, Ct.mono (cr_thrown hl0 M1 F') ?_⟩
  rintro o M3 ⟨rfl, rfl⟩
  refine ⟨fun _ => ⟨fun _ => fin _ _ (by show nc + 2 + 0 + 0 ≤ _; omega) (by show ns + 12 + 0 + 0 ≤ _; omega), fun hz => ⟨vp_in_iff.mpr (by decide), fun _ => fin _ _ (by show nc + 2 + 0 + 0 ≤ _; omega) (by show ns + 12 + 0 + 0 ≤ _; omega), fun hne => absurd ?_ hne⟩⟩, fun hne => absurd c0 hne⟩
  have hz' : r.1 = 0 := hz
  show lg_cmp (mL M1 oa 0) w.toInt64 = 0
  rw [hv hz', hw' hz']
  exact lg_self
set_option maxRecDepth 20000 in
theorem lc_isSame (hl0 : l.stackTraces = false) {b L x m oa od T i nc ns : Nat} {xs : Nat → Int32} {M : EM} {F : FM} {Q : EO → EM → Prop} {K : Nat → EK} (hc : e_clo (pgL_16 l g L xs) (e_ret sg_L_law Q) K) (hw : e_wk K) (hJ : JD M x F T) (hM : rM M m F = M) (hT : T + 100 < 2 ^ 20) (hl : x + 2232 ≤ m ∧ m + 14 ≤ oa ∧ m + 14 ≤ od) (hi : i + 7 ≤ L) (hL : L ≤ 3584) (hr : nc + 6 ≤ 601024 ∧ ns + 36 ≤ 7293034)
    (hK : ∀ M' nc' ns', (∃ F', JD M' x F' (T + 9) ∧ rM M' m F' = M') → nc' ≤ nc + 6 → ns' ≤ ns + 36 → K 2544 (LL b x m oa od i) [] M' nc' ns') : K 1336 (LL b x m oa od i) [] M nc ns := by
  obtain ⟨r, Pf, hk, h1, h2⟩ := px_isSame hl0 hJ (m := m) (xs (nI i + 1).toNatClampNeg)
  refine e_step rfl hc 100 [2544] ?_
  refine ⟨⟨rfl, xin (k := 1) (by omega) hL⟩, ⟨by show nc + 1 ≤ 601024; omega, by show ns + 6 ≤ 7293034; omega⟩, CtH.mono (cw_isSame hl0 _ hk h1) ?_⟩
  rintro o M1 ⟨⟨hW⟩⟩
  obtain ⟨⟨e1, hN⟩, hv, rfl⟩ := WP.mid hW hM hl.1 hl.2.1 (fun M1 M2 hn he F' hF' => (hn F' hF').eq he)
  have h2' := h2 M1
  rw [e1] at h2'
  refine ⟨⟨rfl, xin (k := 1) (by omega) hL⟩, ⟨by show nc + 1 + 0 ≤ 601024; omega, by show ns + 6 + 0 ≤ 7293034; omega⟩, Ct.mono h2' ?_⟩
  rintro o M2 ⟨⟨F', ⟨rfl, c0⟩, ⟨w, rfl, hw'⟩, hP⟩⟩
  have fin : ∀ nc' ns', nc' ≤ nc + 6 → ns' ≤ ns + 36 → K 2544 [some (.inr (.inr (.inr (.inr (216, b))))), some (.inr (.inr (.inr (.inr (1, x))))), some (.inr (.inr (.inr (.inr (30, m))))), some (.inr (.inr (.inr (.inr (50, oa))))), some (.inr (.inr (.inr (.inr (51, od))))), some (.inl (nI i)), some (.inl r.1), some (.inl w)] [] (rM M1 m F') nc' ns' := fun nc' ns' a1 a2 => LL.wk hw (hK _ nc' ns' ⟨F', (hN F' hP).eq (rM_eq (by omega)), rM_ie (fun c j c1 c2 => if_pos ⟨c1, c2⟩)⟩ a1 a2)
  refine ⟨⟨by show nc + 1 + 0 + 0 ≤ 601024; omega, by show ns + 6 + 0 + 0 ≤ 7293034; omega⟩, Ct.mono (cr_thrown hl0 M1 F') ?_⟩
  rintro o M3 ⟨rfl, rfl⟩
  refine ⟨fun _ => ⟨fun _ => fin _ _ (by show nc + 1 + 0 + 0 ≤ _; omega) (by show ns + 6 + 0 + 0 ≤ _; omega), fun hz => ⟨vp_in_iff.mpr (by decide), fun hb => ⟨fun _ => fin _ _ (by show nc + 1 + 0 + 0 ≤ _; omega) (by show ns + 6 + 0 + 0 ≤ _; omega), fun hne => absurd ?_ hne⟩, fun hb => ⟨fun _ => fin _ _ (by show nc + 1 + 0 + 0 ≤ _; omega) (by show ns + 6 + 0 + 0 ≤ _; omega), fun hne => absurd ?_ hne⟩⟩⟩, fun hne => absurd c0 hne⟩
  · have hz' : r.1 = 0 := hz
    have hb' : w = 0 := hb
    show lg_cmp (mL M1 oa 0) 0 = 0
    rw [hv hz', if_pos (show r.2 = 0 by rw [← hw' hz']; exact hb')]
    exact lg_self
  · have hz' : r.1 = 0 := hz
    have hb' : ¬ w = 0 := hb
    show lg_cmp (mL M1 oa 0) 1 = 0
    rw [hv hz', if_neg (show ¬ r.2 = 0 by rw [← hw' hz']; exact hb')]
    exact lg_self
set_option maxRecDepth 20000 in
theorem lc_clock (hl0 : l.stackTraces = false) {b L x m oa od T i nc ns : Nat} {xs : Nat → Int32} {M : EM} {F : FM} {Q : EO → EM → Prop} {K : Nat → EK} (hc : e_clo (pgL_17 l g L xs) (e_ret sg_L_law Q) K) (hw : e_wk K) (hJ : JD M x F T) (hM : rM M m F = M) (hT : T + 100 < 2 ^ 20) (hl : x + 2232 ≤ m ∧ m + 14 ≤ oa ∧ m + 14 ≤ od) (hi : i + 7 ≤ L) (hL : L ≤ 3584) (hr : nc + 6 ≤ 601024 ∧ ns + 36 ≤ 7293034)
    (hK : ∀ M' nc' ns', (∃ F', JD M' x F' (T + 9) ∧ rM M' m F' = M') → nc' ≤ nc + 6 → ns' ≤ ns + 36 → K 2544 (LL b x m oa od i) [] M' nc' ns') : K 1399 (LL b x m oa od i) [] M nc ns := by
  obtain ⟨nz, a', c', nb, B, h⟩ := hJ
  have hv : F 1 0 = F 1 0 := rfl
  refine e_step rfl hc 100 [2544] ?_
  refine ⟨⟨by show nc + 0 ≤ 601024; omega, by show ns + 0 ≤ 7293034; omega⟩, Ct.mono (cq_clock hl0 M h.qh) ?_⟩
  rintro o M1 ⟨⟨hf, ho⟩⟩
  have ho' : o = .inl (some (.inl (F 1 0))) := Eq.mp (if_pos (show (0 : Int32) = 0 from rfl)) ho
  subst ho'
  have e1 : rM M1 m F = M1 := rM_ie (fun c j c1 c2 => (hf.i (by omega) j).trans (rM_at hM c1 c2))
  have h2' := cr_clock (l := l) (g := g) hl0 M1 (m := m) F
  rw [e1] at h2'
  refine ⟨⟨by show nc + 0 + 0 ≤ 601024; omega, by show ns + 0 + 0 ≤ 7293034; omega⟩, Ct.mono h2' ?_⟩
  rintro o M2 ⟨F', rfl, hk, c0, w, rfl, hw'⟩
  refine ⟨fun _ => hK _ _ _ ⟨F', ⟨nz, a', c', nb, B, (((h.eq (hf.eq (by omega))).eq (rM_eq (by omega))).rk hk).T (by omega)⟩, rM_ie (fun c j c1 c2 => if_pos ⟨c1, c2⟩)⟩ (by show nc + 0 + 0 ≤ _; omega) (by show ns + 0 + 0 ≤ _; omega), fun hne => absurd ?_ hne⟩
  exact hv.trans (hw' rfl).symm
set_option maxRecDepth 20000 in
theorem lc_side (hl0 : l.stackTraces = false) {b L x m oa od T i nc ns : Nat} {xs : Nat → Int32} {M : EM} {F : FM} {Q : EO → EM → Prop} {K : Nat → EK} (hc : e_clo (pgL_18 l g L xs) (e_ret sg_L_law Q) K) (hw : e_wk K) (hJ : JD M x F T) (hM : rM M m F = M) (hT : T + 100 < 2 ^ 20) (hl : x + 2232 ≤ m ∧ m + 14 ≤ oa ∧ m + 14 ≤ od) (hi : i + 7 ≤ L) (hL : L ≤ 3584) (hr : nc + 6 ≤ 601024 ∧ ns + 36 ≤ 7293034)
    (hK : ∀ M' nc' ns', (∃ F', JD M' x F' (T + 9) ∧ rM M' m F' = M') → nc' ≤ nc + 6 → ns' ≤ ns + 36 → K 2544 (LL b x m oa od i) [] M' nc' ns') : K 1412 (LL b x m oa od i) [] M nc ns := by
  obtain ⟨r, Pf, hk, h1, h2⟩ := px_side hl0 hJ (m := m) (xs (nI i + 1).toNatClampNeg) (xs (nI i + 2).toNatClampNeg)
  refine e_step rfl hc 100 [2544] ?_
  refine ⟨⟨rfl, xin (k := 1) (by omega) hL⟩, ⟨rfl, xin (k := 2) (by omega) hL⟩, ⟨by show nc + 2 ≤ 601024; omega, by show ns + 12 ≤ 7293034; omega⟩, CtH.mono (cw_side hl0 _ _ hk h1) ?_⟩
  rintro o M1 ⟨⟨hW⟩⟩
  obtain ⟨⟨e1, hN⟩, hv, rfl⟩ := WP.mid hW hM hl.1 hl.2.1 (fun M1 M2 hn he F' hF' => (hn F' hF').eq he)
  have h2' := h2 M1
  rw [e1] at h2'
  refine ⟨⟨rfl, xin (k := 1) (by omega) hL⟩, ⟨rfl, xin (k := 2) (by omega) hL⟩, ⟨by show nc + 2 + 0 ≤ 601024; omega, by show ns + 12 + 0 ≤ 7293034; omega⟩, Ct.mono h2' ?_⟩
  rintro o M2 ⟨⟨F', ⟨rfl, c0⟩, ⟨w, rfl, hw'⟩, hP⟩⟩
  have fin : ∀ nc' ns', nc' ≤ nc + 6 → ns' ≤ ns + 36 → K 2544 [some (.inr (.inr (.inr (.inr (216, b))))), some (.inr (.inr (.inr (.inr (1, x))))), some (.inr (.inr (.inr (.inr (30, m))))), some (.inr (.inr (.inr (.inr (50, oa))))), some (.inr (.inr (.inr (.inr (51, od))))), some (.inl (nI i)), some (.inl r.1), some (.inl w)] [] (rM M1 m F') nc' ns' := fun nc' ns' a1 a2 => LL.wk hw (hK _ nc' ns' ⟨F', (hN F' hP).eq (rM_eq (by omega)), rM_ie (fun c j c1 c2 => if_pos ⟨c1, c2⟩)⟩ a1 a2)
  refine ⟨⟨by show nc + 2 + 0 + 0 ≤ 601024; omega, by show ns + 12 + 0 + 0 ≤ 7293034; omega⟩, Ct.mono (cr_thrown hl0 M1 F') ?_⟩
  rintro o M3 ⟨rfl, rfl⟩
  refine ⟨fun _ => ⟨fun _ => fin _ _ (by show nc + 2 + 0 + 0 ≤ _; omega) (by show ns + 12 + 0 + 0 ≤ _; omega), fun hz => ⟨vp_in_iff.mpr (by decide), fun _ => fin _ _ (by show nc + 2 + 0 + 0 ≤ _; omega) (by show ns + 12 + 0 + 0 ≤ _; omega), fun hne => absurd ?_ hne⟩⟩, fun hne => absurd c0 hne⟩
  have hz' : r.1 = 0 := hz
  show lg_cmp (mL M1 oa 0) w.toInt64 = 0
  rw [hv hz', hw' hz']
  exact lg_self
set_option maxRecDepth 20000 in
theorem lc_account (hl0 : l.stackTraces = false) {b L x m oa od T i nc ns : Nat} {xs : Nat → Int32} {M : EM} {F : FM} {Q : EO → EM → Prop} {K : Nat → EK} (hc : e_clo (pgL_19 l g L xs) (e_ret sg_L_law Q) K) (hw : e_wk K) (hJ : JD M x F T) (hM : rM M m F = M) (hT : T + 100 < 2 ^ 20) (hl : x + 2232 ≤ m ∧ m + 14 ≤ oa ∧ m + 14 ≤ od) (hi : i + 7 ≤ L) (hL : L ≤ 3584) (hr : nc + 6 ≤ 601024 ∧ ns + 36 ≤ 7293034)
    (hK : ∀ M' nc' ns', (∃ F', JD M' x F' (T + 9) ∧ rM M' m F' = M') → nc' ≤ nc + 6 → ns' ≤ ns + 36 → K 2544 (LL b x m oa od i) [] M' nc' ns') : K 1480 (LL b x m oa od i) [] M nc ns := by
  obtain ⟨r, Pf, hk, h1, h2⟩ := px_account hl0 hJ (m := m) (xs (nI i + 1).toNatClampNeg) (xs (nI i + 2).toNatClampNeg)
  refine e_step rfl hc 100 [2544] ?_
  refine ⟨⟨rfl, xin (k := 1) (by omega) hL⟩, ⟨rfl, xin (k := 2) (by omega) hL⟩, ⟨by show nc + 2 ≤ 601024; omega, by show ns + 12 ≤ 7293034; omega⟩, CtH.mono (cw_account hl0 _ _ hk h1) ?_⟩
  rintro o M1 ⟨⟨hW⟩⟩
  obtain ⟨⟨e1, hN⟩, hv, rfl⟩ := WP.mid hW hM hl.1 hl.2.1 (fun M1 M2 hn he F' hF' => (hn F' hF').eq he)
  have h2' := h2 M1
  rw [e1] at h2'
  refine ⟨⟨rfl, xin (k := 1) (by omega) hL⟩, ⟨rfl, xin (k := 2) (by omega) hL⟩, ⟨by show nc + 2 + 0 ≤ 601024; omega, by show ns + 12 + 0 ≤ 7293034; omega⟩, Ct.mono h2' ?_⟩
  rintro o M2 ⟨⟨F', ⟨rfl, c0⟩, ⟨w, rfl, hw'⟩, hP⟩⟩
  have fin : ∀ nc' ns', nc' ≤ nc + 6 → ns' ≤ ns + 36 → K 2544 [some (.inr (.inr (.inr (.inr (216, b))))), some (.inr (.inr (.inr (.inr (1, x))))), some (.inr (.inr (.inr (.inr (30, m))))), some (.inr (.inr (.inr (.inr (50, oa))))), some (.inr (.inr (.inr (.inr (51, od))))), some (.inl (nI i)), some (.inl r.1), some (.inl w)] [] (rM M1 m F') nc' ns' := fun nc' ns' a1 a2 => LL.wk hw (hK _ nc' ns' ⟨F', (hN F' hP).eq (rM_eq (by omega)), rM_ie (fun c j c1 c2 => if_pos ⟨c1, c2⟩)⟩ a1 a2)
  refine ⟨⟨by show nc + 2 + 0 + 0 ≤ 601024; omega, by show ns + 12 + 0 + 0 ≤ 7293034; omega⟩, Ct.mono (cr_thrown hl0 M1 F') ?_⟩
  rintro o M3 ⟨rfl, rfl⟩
  refine ⟨fun _ => ⟨fun _ => fin _ _ (by show nc + 2 + 0 + 0 ≤ _; omega) (by show ns + 12 + 0 + 0 ≤ _; omega), fun hz => ⟨vp_in_iff.mpr (by decide), fun _ => fin _ _ (by show nc + 2 + 0 + 0 ≤ _; omega) (by show ns + 12 + 0 + 0 ≤ _; omega), fun hne => absurd ?_ hne⟩⟩, fun hne => absurd c0 hne⟩
  have hz' : r.1 = 0 := hz
  show lg_cmp (mL M1 oa 0) w.toInt64 = 0
  rw [hv hz', hw' hz']
  exact lg_self
set_option maxRecDepth 20000 in
theorem lc_create (hl0 : l.stackTraces = false) {b L x m oa od T i nc ns : Nat} {xs : Nat → Int32} {M : EM} {F : FM} {Q : EO → EM → Prop} {K : Nat → EK} (hc : e_clo (pgL_20 l g L xs) (e_ret sg_L_law Q) K) (hw : e_wk K) (hJ : JD M x F T) (hM : rM M m F = M) (hT : T + 100 < 2 ^ 20) (hl : x + 2232 ≤ m ∧ m + 14 ≤ oa ∧ m + 14 ≤ od) (hi : i + 7 ≤ L) (hL : L ≤ 3584) (hr : nc + 6 ≤ 601024 ∧ ns + 36 ≤ 7293034)
    (hK : ∀ M' nc' ns', (∃ F', JD M' x F' (T + 9) ∧ rM M' m F' = M') → nc' ≤ nc + 6 → ns' ≤ ns + 36 → K 2544 (LL b x m oa od i) [] M' nc' ns') : K 1548 (LL b x m oa od i) [] M nc ns := by
  obtain ⟨r, Pf, hk, h1, h2⟩ := px_create hl0 hJ (m := m) (xs (nI i + 1).toNatClampNeg) (xs (nI i + 2).toNatClampNeg) (xs (nI i + 3).toNatClampNeg) (xs (nI i + 4).toNatClampNeg) (xs (nI i + 5).toNatClampNeg) (xs (nI i + 6).toNatClampNeg)
  refine e_step rfl hc 100 [2544] ?_
  refine ⟨⟨rfl, xin (k := 1) (by omega) hL⟩, ⟨rfl, xin (k := 2) (by omega) hL⟩, ⟨rfl, xin (k := 3) (by omega) hL⟩, ⟨rfl, xin (k := 4) (by omega) hL⟩, ⟨rfl, xin (k := 5) (by omega) hL⟩, ⟨rfl, xin (k := 6) (by omega) hL⟩, ⟨by show nc + 6 ≤ 601024; omega, by show ns + 36 ≤ 7293034; omega⟩, CtH.mono (cw_create hl0 _ _ _ _ _ _ hk h1) ?_⟩
  rintro o M1 ⟨⟨hW⟩⟩
  obtain ⟨⟨e1, hN⟩, hv, rfl⟩ := WP.mid hW hM hl.1 hl.2.1 (fun M1 M2 hn he F' hF' => (hn F' hF').eq he)
  have h2' := h2 M1
  rw [e1] at h2'
  refine ⟨⟨rfl, xin (k := 1) (by omega) hL⟩, ⟨rfl, xin (k := 2) (by omega) hL⟩, ⟨rfl, xin (k := 3) (by omega) hL⟩, ⟨rfl, xin (k := 4) (by omega) hL⟩, ⟨rfl, xin (k := 5) (by omega) hL⟩, ⟨rfl, xin (k := 6) (by omega) hL⟩, ⟨by show nc + 6 + 0 ≤ 601024; omega, by show ns + 36 + 0 ≤ 7293034; omega⟩, Ct.mono h2' ?_⟩
  rintro o M2 ⟨⟨F', ⟨rfl, c0⟩, ⟨w, rfl, hw'⟩, hP⟩⟩
  have fin : ∀ nc' ns', nc' ≤ nc + 6 → ns' ≤ ns + 36 → K 2544 [some (.inr (.inr (.inr (.inr (216, b))))), some (.inr (.inr (.inr (.inr (1, x))))), some (.inr (.inr (.inr (.inr (30, m))))), some (.inr (.inr (.inr (.inr (50, oa))))), some (.inr (.inr (.inr (.inr (51, od))))), some (.inl (nI i)), some (.inl r.1), some (.inl w)] [] (rM M1 m F') nc' ns' := fun nc' ns' a1 a2 => LL.wk hw (hK _ nc' ns' ⟨F', (hN F' hP).eq (rM_eq (by omega)), rM_ie (fun c j c1 c2 => if_pos ⟨c1, c2⟩)⟩ a1 a2)
  refine ⟨⟨by show nc + 6 + 0 + 0 ≤ 601024; omega, by show ns + 36 + 0 + 0 ≤ 7293034; omega⟩, Ct.mono (cr_thrown hl0 M1 F') ?_⟩
  rintro o M3 ⟨rfl, rfl⟩
  refine ⟨fun _ => ⟨fun _ => fin _ _ (by show nc + 6 + 0 + 0 ≤ _; omega) (by show ns + 36 + 0 + 0 ≤ _; omega), fun hz => ⟨vp_in_iff.mpr (by decide), fun _ => fin _ _ (by show nc + 6 + 0 + 0 ≤ _; omega) (by show ns + 36 + 0 + 0 ≤ _; omega), fun hne => absurd ?_ hne⟩⟩, fun hne => absurd c0 hne⟩
  have hz' : r.1 = 0 := hz
  show lg_cmp (mL M1 oa 0) w.toInt64 = 0
  rw [hv hz', hw' hz']
  exact lg_self
set_option maxRecDepth 20000 in
theorem lc_repeat (hl0 : l.stackTraces = false) {b L x m oa od T i nc ns : Nat} {xs : Nat → Int32} {M : EM} {F : FM} {Q : EO → EM → Prop} {K : Nat → EK} (hc : e_clo (pgL_21 l g L xs) (e_ret sg_L_law Q) K) (hw : e_wk K) (hJ : JD M x F T) (hM : rM M m F = M) (hT : T + 100 < 2 ^ 20) (hl : x + 2232 ≤ m ∧ m + 14 ≤ oa ∧ m + 14 ≤ od) (hi : i + 7 ≤ L) (hL : L ≤ 3584) (hr : nc + 6 ≤ 601024 ∧ ns + 36 ≤ 7293034)
    (hK : ∀ M' nc' ns', (∃ F', JD M' x F' (T + 9) ∧ rM M' m F' = M') → nc' ≤ nc + 6 → ns' ≤ ns + 36 → K 2544 (LL b x m oa od i) [] M' nc' ns') : K 1666 (LL b x m oa od i) [] M nc ns := by
  obtain ⟨r, Pf, hk, h1, h2⟩ := px_repeat hl0 hJ (m := m) (xs (nI i + 1).toNatClampNeg) (xs (nI i + 2).toNatClampNeg) (xs (nI i + 3).toNatClampNeg) (xs (nI i + 4).toNatClampNeg) (xs (nI i + 5).toNatClampNeg) (xs (nI i + 6).toNatClampNeg)
  refine e_step rfl hc 100 [2544] ?_
  refine ⟨⟨rfl, xin (k := 1) (by omega) hL⟩, ⟨rfl, xin (k := 2) (by omega) hL⟩, ⟨rfl, xin (k := 3) (by omega) hL⟩, ⟨rfl, xin (k := 4) (by omega) hL⟩, ⟨rfl, xin (k := 5) (by omega) hL⟩, ⟨rfl, xin (k := 6) (by omega) hL⟩, ⟨by show nc + 6 ≤ 601024; omega, by show ns + 36 ≤ 7293034; omega⟩, CtH.mono (cw_repeat hl0 _ _ _ _ _ _ hk h1) ?_⟩
  rintro o M1 ⟨⟨hW⟩⟩
  obtain ⟨⟨e1, hN⟩, hv, rfl⟩ := WP.mid hW hM hl.1 hl.2.1 (fun M1 M2 hn he F' hF' => (hn F' hF').eq he)
  have h2' := h2 M1
  rw [e1] at h2'
  refine ⟨⟨rfl, xin (k := 1) (by omega) hL⟩, ⟨rfl, xin (k := 2) (by omega) hL⟩, ⟨rfl, xin (k := 3) (by omega) hL⟩, ⟨rfl, xin (k := 4) (by omega) hL⟩, ⟨rfl, xin (k := 5) (by omega) hL⟩, ⟨rfl, xin (k := 6) (by omega) hL⟩, ⟨by show nc + 6 + 0 ≤ 601024; omega, by show ns + 36 + 0 ≤ 7293034; omega⟩, Ct.mono h2' ?_⟩
  rintro o M2 ⟨⟨F', ⟨rfl, c0⟩, ⟨w, rfl, hw'⟩, hP⟩⟩
  have fin : ∀ nc' ns', nc' ≤ nc + 6 → ns' ≤ ns + 36 → K 2544 [some (.inr (.inr (.inr (.inr (216, b))))), some (.inr (.inr (.inr (.inr (1, x))))), some (.inr (.inr (.inr (.inr (30, m))))), some (.inr (.inr (.inr (.inr (50, oa))))), some (.inr (.inr (.inr (.inr (51, od))))), some (.inl (nI i)), some (.inl r.1), some (.inl w)] [] (rM M1 m F') nc' ns' := fun nc' ns' a1 a2 => LL.wk hw (hK _ nc' ns' ⟨F', (hN F' hP).eq (rM_eq (by omega)), rM_ie (fun c j c1 c2 => if_pos ⟨c1, c2⟩)⟩ a1 a2)
  refine ⟨⟨by show nc + 6 + 0 + 0 ≤ 601024; omega, by show ns + 36 + 0 + 0 ≤ 7293034; omega⟩, Ct.mono (cr_thrown hl0 M1 F') ?_⟩
  rintro o M3 ⟨rfl, rfl⟩
  refine ⟨fun _ => ⟨fun _ => fin _ _ (by show nc + 6 + 0 + 0 ≤ _; omega) (by show ns + 36 + 0 + 0 ≤ _; omega), fun hz => ⟨vp_in_iff.mpr (by decide), fun _ => fin _ _ (by show nc + 6 + 0 + 0 ≤ _; omega) (by show ns + 36 + 0 + 0 ≤ _; omega), fun hne => absurd ?_ hne⟩⟩, fun hne => absurd c0 hne⟩
  have hz' : r.1 = 0 := hz
  show lg_cmp (mL M1 oa 0) w.toInt64 = 0
  rw [hv hz', hw' hz']
  exact lg_self
set_option maxRecDepth 20000 in
theorem lc_cancel (hl0 : l.stackTraces = false) {b L x m oa od T i nc ns : Nat} {xs : Nat → Int32} {M : EM} {F : FM} {Q : EO → EM → Prop} {K : Nat → EK} (hc : e_clo (pgL_22 l g L xs) (e_ret sg_L_law Q) K) (hw : e_wk K) (hJ : JD M x F T) (hM : rM M m F = M) (hT : T + 100 < 2 ^ 20) (hl : x + 2232 ≤ m ∧ m + 14 ≤ oa ∧ m + 14 ≤ od) (hi : i + 7 ≤ L) (hL : L ≤ 3584) (hr : nc + 6 ≤ 601024 ∧ ns + 36 ≤ 7293034)
    (hK : ∀ M' nc' ns', (∃ F', JD M' x F' (T + 9) ∧ rM M' m F' = M') → nc' ≤ nc + 6 → ns' ≤ ns + 36 → K 2544 (LL b x m oa od i) [] M' nc' ns') : K 1784 (LL b x m oa od i) [] M nc ns := by
  obtain ⟨r, Pf, hk, h1, h2⟩ := px_cancel hl0 hJ (m := m) (xs (nI i + 1).toNatClampNeg) (xs (nI i + 2).toNatClampNeg) (xs (nI i + 3).toNatClampNeg)
  refine e_step rfl hc 100 [2544] ?_
  refine ⟨⟨rfl, xin (k := 1) (by omega) hL⟩, ⟨rfl, xin (k := 2) (by omega) hL⟩, ⟨rfl, xin (k := 3) (by omega) hL⟩, ⟨by show nc + 3 ≤ 601024; omega, by show ns + 18 ≤ 7293034; omega⟩, CtH.mono (cw_cancel hl0 _ _ _ hk h1) ?_⟩
  rintro o M1 ⟨⟨hW⟩⟩
  obtain ⟨⟨e1, hN⟩, hv, rfl⟩ := WP.mid hW hM hl.1 hl.2.1 (fun M1 M2 hn he F' hF' => (hn F' hF').eq he)
  have h2' := h2 M1
  rw [e1] at h2'
  refine ⟨⟨rfl, xin (k := 1) (by omega) hL⟩, ⟨rfl, xin (k := 2) (by omega) hL⟩, ⟨rfl, xin (k := 3) (by omega) hL⟩, ⟨by show nc + 3 + 0 ≤ 601024; omega, by show ns + 18 + 0 ≤ 7293034; omega⟩, Ct.mono h2' ?_⟩
  rintro o M2 ⟨⟨F', ⟨rfl, c0⟩, ⟨w, rfl, hw'⟩, hP⟩⟩
  have fin : ∀ nc' ns', nc' ≤ nc + 6 → ns' ≤ ns + 36 → K 2544 [some (.inr (.inr (.inr (.inr (216, b))))), some (.inr (.inr (.inr (.inr (1, x))))), some (.inr (.inr (.inr (.inr (30, m))))), some (.inr (.inr (.inr (.inr (50, oa))))), some (.inr (.inr (.inr (.inr (51, od))))), some (.inl (nI i)), some (.inl r.1), some (.inl w)] [] (rM M1 m F') nc' ns' := fun nc' ns' a1 a2 => LL.wk hw (hK _ nc' ns' ⟨F', (hN F' hP).eq (rM_eq (by omega)), rM_ie (fun c j c1 c2 => if_pos ⟨c1, c2⟩)⟩ a1 a2)
  refine ⟨⟨by show nc + 3 + 0 + 0 ≤ 601024; omega, by show ns + 18 + 0 + 0 ≤ 7293034; omega⟩, Ct.mono (cr_thrown hl0 M1 F') ?_⟩
  rintro o M3 ⟨rfl, rfl⟩
  refine ⟨fun _ => ⟨fun _ => fin _ _ (by show nc + 3 + 0 + 0 ≤ _; omega) (by show ns + 18 + 0 + 0 ≤ _; omega), fun hz => ⟨vp_in_iff.mpr (by decide), fun _ => fin _ _ (by show nc + 3 + 0 + 0 ≤ _; omega) (by show ns + 18 + 0 + 0 ≤ _; omega), fun hne => absurd ?_ hne⟩⟩, fun hne => absurd c0 hne⟩
  have hz' : r.1 = 0 := hz
  show lg_cmp (mL M1 oa 0) w.toInt64 = 0
  rw [hv hz', hw' hz']
  exact lg_self
set_option maxRecDepth 20000 in
theorem lc_move (hl0 : l.stackTraces = false) {b L x m oa od T i nc ns : Nat} {xs : Nat → Int32} {M : EM} {F : FM} {Q : EO → EM → Prop} {K : Nat → EK} (hc : e_clo (pgL_23 l g L xs) (e_ret sg_L_law Q) K) (hw : e_wk K) (hJ : JD M x F T) (hM : rM M m F = M) (hT : T + 100 < 2 ^ 20) (hl : x + 2232 ≤ m ∧ m + 14 ≤ oa ∧ m + 14 ≤ od) (hi : i + 7 ≤ L) (hL : L ≤ 3584) (hr : nc + 6 ≤ 601024 ∧ ns + 36 ≤ 7293034)
    (hK : ∀ M' nc' ns', (∃ F', JD M' x F' (T + 9) ∧ rM M' m F' = M') → nc' ≤ nc + 6 → ns' ≤ ns + 36 → K 2544 (LL b x m oa od i) [] M' nc' ns') : K 1864 (LL b x m oa od i) [] M nc ns := by
  obtain ⟨r, Pf, hk, h1, h2⟩ := px_move hl0 hJ (m := m) (xs (nI i + 1).toNatClampNeg) (xs (nI i + 2).toNatClampNeg) (xs (nI i + 3).toNatClampNeg) (xs (nI i + 4).toNatClampNeg) (xs (nI i + 5).toNatClampNeg)
  refine e_step rfl hc 100 [2544] ?_
  refine ⟨⟨rfl, xin (k := 1) (by omega) hL⟩, ⟨rfl, xin (k := 2) (by omega) hL⟩, ⟨rfl, xin (k := 3) (by omega) hL⟩, ⟨rfl, xin (k := 4) (by omega) hL⟩, ⟨rfl, xin (k := 5) (by omega) hL⟩, ⟨by show nc + 4 ≤ 601024; omega, by show ns + 24 ≤ 7293034; omega⟩, CtH.mono (cw_move hl0 _ _ _ _ _ hk h1) ?_⟩
  rintro o M1 ⟨⟨hW⟩⟩
  obtain ⟨⟨e1, hN⟩, hv, rfl⟩ := WP.mid hW hM hl.1 hl.2.1 (fun M1 M2 hn he F' hF' => (hn F' hF').eq he)
  have h2' := h2 M1
  rw [e1] at h2'
  refine ⟨⟨rfl, xin (k := 1) (by omega) hL⟩, ⟨rfl, xin (k := 2) (by omega) hL⟩, ⟨rfl, xin (k := 3) (by omega) hL⟩, ⟨rfl, xin (k := 4) (by omega) hL⟩, ⟨rfl, xin (k := 5) (by omega) hL⟩, ⟨by show nc + 4 + 0 ≤ 601024; omega, by show ns + 24 + 0 ≤ 7293034; omega⟩, Ct.mono h2' ?_⟩
  rintro o M2 ⟨⟨F', ⟨rfl, c0⟩, ⟨w, rfl, hw'⟩, hP⟩⟩
  have fin : ∀ nc' ns', nc' ≤ nc + 6 → ns' ≤ ns + 36 → K 2544 [some (.inr (.inr (.inr (.inr (216, b))))), some (.inr (.inr (.inr (.inr (1, x))))), some (.inr (.inr (.inr (.inr (30, m))))), some (.inr (.inr (.inr (.inr (50, oa))))), some (.inr (.inr (.inr (.inr (51, od))))), some (.inl (nI i)), some (.inl r.1), some (.inl w)] [] (rM M1 m F') nc' ns' := fun nc' ns' a1 a2 => LL.wk hw (hK _ nc' ns' ⟨F', (hN F' hP).eq (rM_eq (by omega)), rM_ie (fun c j c1 c2 => if_pos ⟨c1, c2⟩)⟩ a1 a2)
  refine ⟨⟨by show nc + 4 + 0 + 0 ≤ 601024; omega, by show ns + 24 + 0 + 0 ≤ 7293034; omega⟩, Ct.mono (cr_thrown hl0 M1 F') ?_⟩
  rintro o M3 ⟨rfl, rfl⟩
  refine ⟨fun _ => ⟨fun _ => fin _ _ (by show nc + 4 + 0 + 0 ≤ _; omega) (by show ns + 24 + 0 + 0 ≤ _; omega), fun hz => ⟨vp_in_iff.mpr (by decide), fun _ => fin _ _ (by show nc + 4 + 0 + 0 ≤ _; omega) (by show ns + 24 + 0 + 0 ≤ _; omega), fun hne => absurd ?_ hne⟩⟩, fun hne => absurd c0 hne⟩
  have hz' : r.1 = 0 := hz
  show lg_cmp (mL M1 oa 0) w.toInt64 = 0
  rw [hv hz', hw' hz']
  exact lg_self
set_option maxRecDepth 20000 in
theorem lc_reply (hl0 : l.stackTraces = false) {b L x m oa od T i nc ns : Nat} {xs : Nat → Int32} {M : EM} {F : FM} {Q : EO → EM → Prop} {K : Nat → EK} (hc : e_clo (pgL_24 l g L xs) (e_ret sg_L_law Q) K) (hw : e_wk K) (hJ : JD M x F T) (hM : rM M m F = M) (hT : T + 100 < 2 ^ 20) (hl : x + 2232 ≤ m ∧ m + 14 ≤ oa ∧ m + 14 ≤ od) (hi : i + 7 ≤ L) (hL : L ≤ 3584) (hr : nc + 6 ≤ 601024 ∧ ns + 36 ≤ 7293034)
    (hK : ∀ M' nc' ns', (∃ F', JD M' x F' (T + 9) ∧ rM M' m F' = M') → nc' ≤ nc + 6 → ns' ≤ ns + 36 → K 2544 (LL b x m oa od i) [] M' nc' ns') : K 1968 (LL b x m oa od i) [] M nc ns := by
  obtain ⟨r, Pf, hk, h1, h2⟩ := px_reply hl0 hJ (m := m) (xs (nI i + 1).toNatClampNeg) (xs (nI i + 2).toNatClampNeg) (xs (nI i + 3).toNatClampNeg) (xs (nI i + 4).toNatClampNeg)
  refine e_step rfl hc 100 [2544] ?_
  refine ⟨⟨rfl, xin (k := 1) (by omega) hL⟩, ⟨rfl, xin (k := 2) (by omega) hL⟩, ⟨rfl, xin (k := 3) (by omega) hL⟩, ⟨rfl, xin (k := 4) (by omega) hL⟩, ⟨by show nc + 4 ≤ 601024; omega, by show ns + 24 ≤ 7293034; omega⟩, CtH.mono (cw_reply hl0 _ _ _ _ hk h1) ?_⟩
  rintro o M1 ⟨⟨hW⟩⟩
  obtain ⟨⟨e1, hN⟩, hv, rfl⟩ := WP.mid hW hM hl.1 hl.2.1 (fun M1 M2 hn he F' hF' => (hn F' hF').eq he)
  have h2' := h2 M1
  rw [e1] at h2'
  refine ⟨⟨rfl, xin (k := 1) (by omega) hL⟩, ⟨rfl, xin (k := 2) (by omega) hL⟩, ⟨rfl, xin (k := 3) (by omega) hL⟩, ⟨rfl, xin (k := 4) (by omega) hL⟩, ⟨by show nc + 4 + 0 ≤ 601024; omega, by show ns + 24 + 0 ≤ 7293034; omega⟩, Ct.mono h2' ?_⟩
  rintro o M2 ⟨⟨F', ⟨rfl, c0⟩, ⟨w, rfl, hw'⟩, hP⟩⟩
  have fin : ∀ nc' ns', nc' ≤ nc + 6 → ns' ≤ ns + 36 → K 2544 [some (.inr (.inr (.inr (.inr (216, b))))), some (.inr (.inr (.inr (.inr (1, x))))), some (.inr (.inr (.inr (.inr (30, m))))), some (.inr (.inr (.inr (.inr (50, oa))))), some (.inr (.inr (.inr (.inr (51, od))))), some (.inl (nI i)), some (.inl r.1), some (.inl w)] [] (rM M1 m F') nc' ns' := fun nc' ns' a1 a2 => LL.wk hw (hK _ nc' ns' ⟨F', (hN F' hP).eq (rM_eq (by omega)), rM_ie (fun c j c1 c2 => if_pos ⟨c1, c2⟩)⟩ a1 a2)
  refine ⟨⟨by show nc + 4 + 0 + 0 ≤ 601024; omega, by show ns + 24 + 0 + 0 ≤ 7293034; omega⟩, Ct.mono (cr_thrown hl0 M1 F') ?_⟩
  rintro o M3 ⟨rfl, rfl⟩
  refine ⟨fun _ => ⟨fun _ => fin _ _ (by show nc + 4 + 0 + 0 ≤ _; omega) (by show ns + 24 + 0 + 0 ≤ _; omega), fun hz => ⟨vp_in_iff.mpr (by decide), fun _ => fin _ _ (by show nc + 4 + 0 + 0 ≤ _; omega) (by show ns + 24 + 0 + 0 ≤ _; omega), fun hne => absurd ?_ hne⟩⟩, fun hne => absurd c0 hne⟩
  have hz' : r.1 = 0 := hz
  show lg_cmp (mL M1 oa 0) w.toInt64 = 0
  rw [hv hz', hw' hz']
  exact lg_self
set_option maxRecDepth 20000 in
theorem lc_remove (hl0 : l.stackTraces = false) {b L x m oa od T i nc ns : Nat} {xs : Nat → Int32} {M : EM} {F : FM} {Q : EO → EM → Prop} {K : Nat → EK} (hc : e_clo (pgL_25 l g L xs) (e_ret sg_L_law Q) K) (hw : e_wk K) (hJ : JD M x F T) (hM : rM M m F = M) (hT : T + 100 < 2 ^ 20) (hl : x + 2232 ≤ m ∧ m + 14 ≤ oa ∧ m + 14 ≤ od) (hi : i + 7 ≤ L) (hL : L ≤ 3584) (hr : nc + 6 ≤ 601024 ∧ ns + 36 ≤ 7293034)
    (hK : ∀ M' nc' ns', (∃ F', JD M' x F' (T + 9) ∧ rM M' m F' = M') → nc' ≤ nc + 6 → ns' ≤ ns + 36 → K 2544 (LL b x m oa od i) [] M' nc' ns') : K 2060 (LL b x m oa od i) [] M nc ns := by
  obtain ⟨r, Pf, hk, h1, h2⟩ := px_remove hl0 hJ (m := m) (xs (nI i + 1).toNatClampNeg) (xs (nI i + 2).toNatClampNeg)
  refine e_step rfl hc 100 [2544] ?_
  refine ⟨⟨rfl, xin (k := 1) (by omega) hL⟩, ⟨rfl, xin (k := 2) (by omega) hL⟩, ⟨by show nc + 2 ≤ 601024; omega, by show ns + 12 ≤ 7293034; omega⟩, CtH.mono (cw_remove hl0 _ _ hk h1) ?_⟩
  rintro o M1 ⟨⟨hW⟩⟩
  obtain ⟨⟨e1, hN⟩, hv, rfl⟩ := WP.mid hW hM hl.1 hl.2.1 (fun M1 M2 hn he F' hF' => (hn F' hF').eq he)
  have h2' := h2 M1
  rw [e1] at h2'
  refine ⟨⟨rfl, xin (k := 1) (by omega) hL⟩, ⟨rfl, xin (k := 2) (by omega) hL⟩, ⟨by show nc + 2 + 0 ≤ 601024; omega, by show ns + 12 + 0 ≤ 7293034; omega⟩, Ct.mono h2' ?_⟩
  rintro o M2 ⟨⟨F', ⟨rfl, c0⟩, ⟨w, rfl, hw'⟩, hP⟩⟩
  have fin : ∀ nc' ns', nc' ≤ nc + 6 → ns' ≤ ns + 36 → K 2544 [some (.inr (.inr (.inr (.inr (216, b))))), some (.inr (.inr (.inr (.inr (1, x))))), some (.inr (.inr (.inr (.inr (30, m))))), some (.inr (.inr (.inr (.inr (50, oa))))), some (.inr (.inr (.inr (.inr (51, od))))), some (.inl (nI i)), some (.inl r.1), some (.inl w)] [] (rM M1 m F') nc' ns' := fun nc' ns' a1 a2 => LL.wk hw (hK _ nc' ns' ⟨F', (hN F' hP).eq (rM_eq (by omega)), rM_ie (fun c j c1 c2 => if_pos ⟨c1, c2⟩)⟩ a1 a2)
  refine ⟨⟨by show nc + 2 + 0 + 0 ≤ 601024; omega, by show ns + 12 + 0 + 0 ≤ 7293034; omega⟩, Ct.mono (cr_thrown hl0 M1 F') ?_⟩
  rintro o M3 ⟨rfl, rfl⟩
  refine ⟨fun _ => ⟨fun _ => fin _ _ (by show nc + 2 + 0 + 0 ≤ _; omega) (by show ns + 12 + 0 + 0 ≤ _; omega), fun hz => ⟨vp_in_iff.mpr (by decide), fun _ => fin _ _ (by show nc + 2 + 0 + 0 ≤ _; omega) (by show ns + 12 + 0 + 0 ≤ _; omega), fun hne => absurd ?_ hne⟩⟩, fun hne => absurd c0 hne⟩
  have hz' : r.1 = 0 := hz
  show lg_cmp (mL M1 oa 0) w.toInt64 = 0
  rw [hv hz', hw' hz']
  exact lg_self
set_option maxRecDepth 20000 in
theorem lc_setZone (hl0 : l.stackTraces = false) {b L x m oa od T i nc ns : Nat} {xs : Nat → Int32} {M : EM} {F : FM} {Q : EO → EM → Prop} {K : Nat → EK} (hc : e_clo (pgL_26 l g L xs) (e_ret sg_L_law Q) K) (hw : e_wk K) (hJ : JD M x F T) (hM : rM M m F = M) (hT : T + 100 < 2 ^ 20) (hl : x + 2232 ≤ m ∧ m + 14 ≤ oa ∧ m + 14 ≤ od) (hi : i + 7 ≤ L) (hL : L ≤ 3584) (hr : nc + 6 ≤ 601024 ∧ ns + 36 ≤ 7293034)
    (hK : ∀ M' nc' ns', (∃ F', JD M' x F' (T + 9) ∧ rM M' m F' = M') → nc' ≤ nc + 6 → ns' ≤ ns + 36 → K 2544 (LL b x m oa od i) [] M' nc' ns') : K 2128 (LL b x m oa od i) [] M nc ns := by
  obtain ⟨r, Pf, hk, h1, h2⟩ := px_setZone hl0 hJ (m := m) hT (xs (nI i + 1).toNatClampNeg) (xs (nI i + 2).toNatClampNeg) (xs (nI i + 3).toNatClampNeg) (xs (nI i + 4).toNatClampNeg)
  refine e_step rfl hc 100 [2544] ?_
  refine ⟨⟨rfl, xin (k := 1) (by omega) hL⟩, ⟨rfl, xin (k := 2) (by omega) hL⟩, ⟨rfl, xin (k := 3) (by omega) hL⟩, ⟨rfl, xin (k := 4) (by omega) hL⟩, ⟨by show nc + 4 ≤ 601024; omega, by show ns + 24 ≤ 7293034; omega⟩, CtH.mono (cw_setZone hl0 _ _ _ _ hk h1) ?_⟩
  rintro o M1 ⟨⟨hW⟩⟩
  obtain ⟨⟨e1, hN⟩, hv, rfl⟩ := WP.mid hW hM hl.1 hl.2.1 (fun M1 M2 hn he F' hF' => (hn F' hF').eq he)
  have h2' := h2 M1
  rw [e1] at h2'
  refine ⟨⟨rfl, xin (k := 1) (by omega) hL⟩, ⟨rfl, xin (k := 2) (by omega) hL⟩, ⟨rfl, xin (k := 3) (by omega) hL⟩, ⟨rfl, xin (k := 4) (by omega) hL⟩, ⟨by show nc + 4 + 0 ≤ 601024; omega, by show ns + 24 + 0 ≤ 7293034; omega⟩, Ct.mono h2' ?_⟩
  rintro o M2 ⟨⟨F', ⟨rfl, c0⟩, ⟨w, rfl, hw'⟩, hP⟩⟩
  have fin : ∀ nc' ns', nc' ≤ nc + 6 → ns' ≤ ns + 36 → K 2544 [some (.inr (.inr (.inr (.inr (216, b))))), some (.inr (.inr (.inr (.inr (1, x))))), some (.inr (.inr (.inr (.inr (30, m))))), some (.inr (.inr (.inr (.inr (50, oa))))), some (.inr (.inr (.inr (.inr (51, od))))), some (.inl (nI i)), some (.inl r.1), some (.inl w)] [] (rM M1 m F') nc' ns' := fun nc' ns' a1 a2 => LL.wk hw (hK _ nc' ns' ⟨F', (hN F' hP).eq (rM_eq (by omega)), rM_ie (fun c j c1 c2 => if_pos ⟨c1, c2⟩)⟩ a1 a2)
  refine ⟨⟨by show nc + 4 + 0 + 0 ≤ 601024; omega, by show ns + 24 + 0 + 0 ≤ 7293034; omega⟩, Ct.mono (cr_thrown hl0 M1 F') ?_⟩
  rintro o M3 ⟨rfl, rfl⟩
  refine ⟨fun _ => ⟨fun _ => fin _ _ (by show nc + 4 + 0 + 0 ≤ _; omega) (by show ns + 24 + 0 + 0 ≤ _; omega), fun hz => ⟨vp_in_iff.mpr (by decide), fun _ => fin _ _ (by show nc + 4 + 0 + 0 ≤ _; omega) (by show ns + 24 + 0 + 0 ≤ _; omega), fun hne => absurd ?_ hne⟩⟩, fun hne => absurd c0 hne⟩
  have hz' : r.1 = 0 := hz
  show lg_cmp (mL M1 oa 0) w.toInt64 = 0
  rw [hv hz', hw' hz']
  exact lg_self
set_option maxRecDepth 20000 in
theorem lc_push (hl0 : l.stackTraces = false) {b L x m oa od T i nc ns : Nat} {xs : Nat → Int32} {M : EM} {F : FM} {Q : EO → EM → Prop} {K : Nat → EK} (hc : e_clo (pgL_27 l g L xs) (e_ret sg_L_law Q) K) (hw : e_wk K) (hJ : JD M x F T) (hM : rM M m F = M) (hT : T + 100 < 2 ^ 20) (hl : x + 2232 ≤ m ∧ m + 14 ≤ oa ∧ m + 14 ≤ od) (hi : i + 7 ≤ L) (hL : L ≤ 3584) (hr : nc + 6 ≤ 601024 ∧ ns + 36 ≤ 7293034)
    (hK : ∀ M' nc' ns', (∃ F', JD M' x F' (T + 9) ∧ rM M' m F' = M') → nc' ≤ nc + 6 → ns' ≤ ns + 36 → K 2544 (LL b x m oa od i) [] M' nc' ns') : K 2220 (LL b x m oa od i) [] M nc ns := by
  obtain ⟨r, Pf, hk, h1, h2⟩ := px_push hl0 hJ (m := m) hT (xs (nI i + 1).toNatClampNeg)
  refine e_step rfl hc 100 [2544] ?_
  refine ⟨⟨rfl, xin (k := 1) (by omega) hL⟩, ⟨by show nc + 1 ≤ 601024; omega, by show ns + 6 ≤ 7293034; omega⟩, CtH.mono (cw_push hl0 _ hk h1) ?_⟩
  rintro o M1 ⟨⟨hW⟩⟩
  obtain ⟨⟨e1, hN⟩, hv, rfl⟩ := WP.mid hW hM hl.1 hl.2.1 (fun M1 M2 hn he F' hF' => (hn F' hF').eq he)
  have h2' := h2 M1
  rw [e1] at h2'
  refine ⟨⟨rfl, xin (k := 1) (by omega) hL⟩, ⟨by show nc + 1 + 0 ≤ 601024; omega, by show ns + 6 + 0 ≤ 7293034; omega⟩, Ct.mono h2' ?_⟩
  rintro o M2 ⟨⟨F', ⟨rfl, c0⟩, ⟨w, rfl, hw'⟩, hP⟩⟩
  have fin : ∀ nc' ns', nc' ≤ nc + 6 → ns' ≤ ns + 36 → K 2544 [some (.inr (.inr (.inr (.inr (216, b))))), some (.inr (.inr (.inr (.inr (1, x))))), some (.inr (.inr (.inr (.inr (30, m))))), some (.inr (.inr (.inr (.inr (50, oa))))), some (.inr (.inr (.inr (.inr (51, od))))), some (.inl (nI i)), some (.inl r.1), some (.inl w)] [] (rM M1 m F') nc' ns' := fun nc' ns' a1 a2 => LL.wk hw (hK _ nc' ns' ⟨F', (hN F' hP).eq (rM_eq (by omega)), rM_ie (fun c j c1 c2 => if_pos ⟨c1, c2⟩)⟩ a1 a2)
  refine ⟨⟨by show nc + 1 + 0 + 0 ≤ 601024; omega, by show ns + 6 + 0 + 0 ≤ 7293034; omega⟩, Ct.mono (cr_thrown hl0 M1 F') ?_⟩
  rintro o M3 ⟨rfl, rfl⟩
  refine ⟨fun _ => ⟨fun _ => fin _ _ (by show nc + 1 + 0 + 0 ≤ _; omega) (by show ns + 6 + 0 + 0 ≤ _; omega), fun hz => ⟨vp_in_iff.mpr (by decide), fun _ => fin _ _ (by show nc + 1 + 0 + 0 ≤ _; omega) (by show ns + 6 + 0 + 0 ≤ _; omega), fun hne => absurd ?_ hne⟩⟩, fun hne => absurd c0 hne⟩
  have hz' : r.1 = 0 := hz
  show lg_cmp (mL M1 oa 0) w.toInt64 = 0
  rw [hv hz', hw' hz']
  exact lg_self
set_option maxRecDepth 20000 in
theorem lc_pull (hl0 : l.stackTraces = false) {b L x m oa od T i nc ns : Nat} {xs : Nat → Int32} {M : EM} {F : FM} {Q : EO → EM → Prop} {K : Nat → EK} (hc : e_clo (pgL_28 l g L xs) (e_ret sg_L_law Q) K) (hw : e_wk K) (hJ : JD M x F T) (hM : rM M m F = M) (hT : T + 100 < 2 ^ 20) (hl : x + 2232 ≤ m ∧ m + 14 ≤ oa ∧ m + 14 ≤ od) (hi : i + 7 ≤ L) (hL : L ≤ 3584) (hr : nc + 6 ≤ 601024 ∧ ns + 36 ≤ 7293034)
    (hK : ∀ M' nc' ns', (∃ F', JD M' x F' (T + 9) ∧ rM M' m F' = M') → nc' ≤ nc + 6 → ns' ≤ ns + 36 → K 2544 (LL b x m oa od i) [] M' nc' ns') : K 2276 (LL b x m oa od i) [] M nc ns := by
  obtain ⟨r, Pf, hk, h1, h2⟩ := px_pull hl0 hJ (m := m) hT (xs (nI i + 1).toNatClampNeg)
  refine e_step rfl hc 100 [2544] ?_
  refine ⟨⟨rfl, xin (k := 1) (by omega) hL⟩, ⟨by show nc + 1 ≤ 601024; omega, by show ns + 6 ≤ 7293034; omega⟩, CtH.mono (cw_pull hl0 _ hk h1) ?_⟩
  rintro o M1 ⟨⟨hW⟩⟩
  obtain ⟨⟨e1, hN⟩, hv, rfl⟩ := WP.mid hW hM hl.1 hl.2.1 (fun M1 M2 hn he F' hF' => (hn F' hF').eq he)
  have h2' := h2 M1
  rw [e1] at h2'
  refine ⟨⟨rfl, xin (k := 1) (by omega) hL⟩, ⟨by show nc + 1 + 0 ≤ 601024; omega, by show ns + 6 + 0 ≤ 7293034; omega⟩, Ct.mono h2' ?_⟩
  rintro o M2 ⟨⟨F', ⟨rfl, c0⟩, ⟨w, rfl, hw'⟩, hP⟩⟩
  have fin : ∀ nc' ns', nc' ≤ nc + 6 → ns' ≤ ns + 36 → K 2544 [some (.inr (.inr (.inr (.inr (216, b))))), some (.inr (.inr (.inr (.inr (1, x))))), some (.inr (.inr (.inr (.inr (30, m))))), some (.inr (.inr (.inr (.inr (50, oa))))), some (.inr (.inr (.inr (.inr (51, od))))), some (.inl (nI i)), some (.inl r.1), some (.inl w)] [] (rM M1 m F') nc' ns' := fun nc' ns' a1 a2 => LL.wk hw (hK _ nc' ns' ⟨F', (hN F' hP).eq (rM_eq (by omega)), rM_ie (fun c j c1 c2 => if_pos ⟨c1, c2⟩)⟩ a1 a2)
  refine ⟨⟨by show nc + 1 + 0 + 0 ≤ 601024; omega, by show ns + 6 + 0 + 0 ≤ 7293034; omega⟩, Ct.mono (cr_thrown hl0 M1 F') ?_⟩
  rintro o M3 ⟨rfl, rfl⟩
  refine ⟨fun _ => ⟨fun _ => fin _ _ (by show nc + 1 + 0 + 0 ≤ _; omega) (by show ns + 6 + 0 + 0 ≤ _; omega), fun hz => ⟨vp_in_iff.mpr (by decide), fun _ => fin _ _ (by show nc + 1 + 0 + 0 ≤ _; omega) (by show ns + 6 + 0 + 0 ≤ _; omega), fun hne => absurd ?_ hne⟩⟩, fun hne => absurd c0 hne⟩
  have hz' : r.1 = 0 := hz
  show lg_cmp (mL M1 oa 0) w.toInt64 = 0
  rw [hv hz', hw' hz']
  exact lg_self
set_option maxRecDepth 20000 in
theorem lc_sync (hl0 : l.stackTraces = false) {b L x m oa od T i nc ns : Nat} {xs : Nat → Int32} {M : EM} {F : FM} {Q : EO → EM → Prop} {K : Nat → EK} (hc : e_clo (pgL_29 l g L xs) (e_ret sg_L_law Q) K) (hw : e_wk K) (hJ : JD M x F T) (hM : rM M m F = M) (hT : T + 100 < 2 ^ 20) (hl : x + 2232 ≤ m ∧ m + 14 ≤ oa ∧ m + 14 ≤ od) (hi : i + 7 ≤ L) (hL : L ≤ 3584) (hr : nc + 6 ≤ 601024 ∧ ns + 36 ≤ 7293034)
    (hK : ∀ M' nc' ns', (∃ F', JD M' x F' (T + 9) ∧ rM M' m F' = M') → nc' ≤ nc + 6 → ns' ≤ ns + 36 → K 2544 (LL b x m oa od i) [] M' nc' ns') : K 2332 (LL b x m oa od i) [] M nc ns := by
  obtain ⟨r, Pf, hk, h1, h2⟩ := px_sync hl0 hJ (m := m) hT (xs (nI i + 1).toNatClampNeg)
  refine e_step rfl hc 100 [2544] ?_
  refine ⟨⟨rfl, xin (k := 1) (by omega) hL⟩, ⟨by show nc + 1 ≤ 601024; omega, by show ns + 6 ≤ 7293034; omega⟩, CtH.mono (cw_sync hl0 _ hk h1) ?_⟩
  rintro o M1 ⟨⟨hW⟩⟩
  obtain ⟨⟨e1, hN⟩, hv, rfl⟩ := WP.mid hW hM hl.1 hl.2.1 (fun M1 M2 hn he F' hF' => (hn F' hF').eq he)
  have h2' := h2 M1
  rw [e1] at h2'
  refine ⟨⟨rfl, xin (k := 1) (by omega) hL⟩, ⟨by show nc + 1 + 0 ≤ 601024; omega, by show ns + 6 + 0 ≤ 7293034; omega⟩, Ct.mono h2' ?_⟩
  rintro o M2 ⟨⟨F', ⟨rfl, c0⟩, ⟨w, rfl, hw'⟩, hP⟩⟩
  have fin : ∀ nc' ns', nc' ≤ nc + 6 → ns' ≤ ns + 36 → K 2544 [some (.inr (.inr (.inr (.inr (216, b))))), some (.inr (.inr (.inr (.inr (1, x))))), some (.inr (.inr (.inr (.inr (30, m))))), some (.inr (.inr (.inr (.inr (50, oa))))), some (.inr (.inr (.inr (.inr (51, od))))), some (.inl (nI i)), some (.inl r.1), some (.inl w)] [] (rM M1 m F') nc' ns' := fun nc' ns' a1 a2 => LL.wk hw (hK _ nc' ns' ⟨F', (hN F' hP).eq (rM_eq (by omega)), rM_ie (fun c j c1 c2 => if_pos ⟨c1, c2⟩)⟩ a1 a2)
  refine ⟨⟨by show nc + 1 + 0 + 0 ≤ 601024; omega, by show ns + 6 + 0 + 0 ≤ 7293034; omega⟩, Ct.mono (cr_thrown hl0 M1 F') ?_⟩
  rintro o M3 ⟨rfl, rfl⟩
  refine ⟨fun _ => ⟨fun _ => fin _ _ (by show nc + 1 + 0 + 0 ≤ _; omega) (by show ns + 6 + 0 + 0 ≤ _; omega), fun hz => ⟨vp_in_iff.mpr (by decide), fun _ => fin _ _ (by show nc + 1 + 0 + 0 ≤ _; omega) (by show ns + 6 + 0 + 0 ≤ _; omega), fun hne => absurd ?_ hne⟩⟩, fun hne => absurd c0 hne⟩
  have hz' : r.1 = 0 := hz
  show lg_cmp (mL M1 oa 0) w.toInt64 = 0
  rw [hv hz', hw' hz']
  exact lg_self
set_option maxRecDepth 20000 in
theorem lc_undo (hl0 : l.stackTraces = false) {b L x m oa od T i nc ns : Nat} {xs : Nat → Int32} {M : EM} {F : FM} {Q : EO → EM → Prop} {K : Nat → EK} (hc : e_clo (pgL_30 l g L xs) (e_ret sg_L_law Q) K) (hw : e_wk K) (hJ : JD M x F T) (hM : rM M m F = M) (hT : T + 100 < 2 ^ 20) (hl : x + 2232 ≤ m ∧ m + 14 ≤ oa ∧ m + 14 ≤ od) (hi : i + 7 ≤ L) (hL : L ≤ 3584) (hr : nc + 6 ≤ 601024 ∧ ns + 36 ≤ 7293034)
    (hK : ∀ M' nc' ns', (∃ F', JD M' x F' (T + 9) ∧ rM M' m F' = M') → nc' ≤ nc + 6 → ns' ≤ ns + 36 → K 2544 (LL b x m oa od i) [] M' nc' ns') : K 2388 (LL b x m oa od i) [] M nc ns := by
  obtain ⟨r, Pf, hk, h1, h2⟩ := px_undo hl0 hJ (m := m)
  refine e_step rfl hc 100 [2544] ?_
  refine ⟨⟨by show nc + 1 ≤ 601024; omega, by show ns + 6 ≤ 7293034; omega⟩, CtH.mono (cw_undo hl0 hk h1) ?_⟩
  rintro o M1 ⟨⟨hW⟩⟩
  obtain ⟨⟨e1, hN⟩, hv, rfl⟩ := WP.mid hW hM hl.1 hl.2.1 (fun M1 M2 hn he F' hF' => (hn F' hF').eq he)
  have h2' := h2 M1
  rw [e1] at h2'
  refine ⟨⟨by show nc + 1 + 0 ≤ 601024; omega, by show ns + 6 + 0 ≤ 7293034; omega⟩, Ct.mono h2' ?_⟩
  rintro o M2 ⟨⟨F', ⟨rfl, c0⟩, ⟨w, rfl, hw'⟩, hP⟩⟩
  have fin : ∀ nc' ns', nc' ≤ nc + 6 → ns' ≤ ns + 36 → K 2544 [some (.inr (.inr (.inr (.inr (216, b))))), some (.inr (.inr (.inr (.inr (1, x))))), some (.inr (.inr (.inr (.inr (30, m))))), some (.inr (.inr (.inr (.inr (50, oa))))), some (.inr (.inr (.inr (.inr (51, od))))), some (.inl (nI i)), some (.inl r.1), some (.inl w)] [] (rM M1 m F') nc' ns' := fun nc' ns' a1 a2 => LL.wk hw (hK _ nc' ns' ⟨F', (hN F' hP).eq (rM_eq (by omega)), rM_ie (fun c j c1 c2 => if_pos ⟨c1, c2⟩)⟩ a1 a2)
  refine ⟨⟨by show nc + 1 + 0 + 0 ≤ 601024; omega, by show ns + 6 + 0 + 0 ≤ 7293034; omega⟩, Ct.mono (cr_thrown hl0 M1 F') ?_⟩
  rintro o M3 ⟨rfl, rfl⟩
  refine ⟨fun _ => ⟨fun _ => fin _ _ (by show nc + 1 + 0 + 0 ≤ _; omega) (by show ns + 6 + 0 + 0 ≤ _; omega), fun hz => ⟨vp_in_iff.mpr (by decide), fun _ => fin _ _ (by show nc + 1 + 0 + 0 ≤ _; omega) (by show ns + 6 + 0 + 0 ≤ _; omega), fun hne => absurd ?_ hne⟩⟩, fun hne => absurd c0 hne⟩
  have hz' : r.1 = 0 := hz
  show lg_cmp (mL M1 oa 0) w.toInt64 = 0
  rw [hv hz', hw' hz']
  exact lg_self
set_option maxRecDepth 20000 in
theorem lc_keep (hl0 : l.stackTraces = false) {b L x m oa od T i nc ns : Nat} {xs : Nat → Int32} {M : EM} {F : FM} {Q : EO → EM → Prop} {K : Nat → EK} (hc : e_clo (pgL_31 l g L xs) (e_ret sg_L_law Q) K) (hw : e_wk K) (hJ : JD M x F T) (hM : rM M m F = M) (hT : T + 100 < 2 ^ 20) (hl : x + 2232 ≤ m ∧ m + 14 ≤ oa ∧ m + 14 ≤ od) (hi : i + 7 ≤ L) (hL : L ≤ 3584) (hr : nc + 6 ≤ 601024 ∧ ns + 36 ≤ 7293034)
    (hK : ∀ M' nc' ns', (∃ F', JD M' x F' (T + 9) ∧ rM M' m F' = M') → nc' ≤ nc + 6 → ns' ≤ ns + 36 → K 2544 (LL b x m oa od i) [] M' nc' ns') : K 2432 (LL b x m oa od i) [] M nc ns := by
  obtain ⟨r, Pf, hk, h1, h2⟩ := px_keep hl0 hJ (m := m) (xs (nI i + 1).toNatClampNeg)
  refine e_step rfl hc 100 [2544] ?_
  refine ⟨⟨rfl, xin (k := 1) (by omega) hL⟩, ⟨by show nc + 1 ≤ 601024; omega, by show ns + 6 ≤ 7293034; omega⟩, CtH.mono (cw_keep hl0 _ hk h1) ?_⟩
  rintro o M1 ⟨⟨hW⟩⟩
  obtain ⟨⟨e1, hN⟩, hv, rfl⟩ := WP.mid hW hM hl.1 hl.2.1 (fun M1 M2 hn he F' hF' => (hn F' hF').eq he)
  have h2' := h2 M1
  rw [e1] at h2'
  refine ⟨⟨rfl, xin (k := 1) (by omega) hL⟩, ⟨by show nc + 1 + 0 ≤ 601024; omega, by show ns + 6 + 0 ≤ 7293034; omega⟩, Ct.mono h2' ?_⟩
  rintro o M2 ⟨⟨F', ⟨rfl, c0⟩, ⟨w, rfl, hw'⟩, hP⟩⟩
  have fin : ∀ nc' ns', nc' ≤ nc + 6 → ns' ≤ ns + 36 → K 2544 [some (.inr (.inr (.inr (.inr (216, b))))), some (.inr (.inr (.inr (.inr (1, x))))), some (.inr (.inr (.inr (.inr (30, m))))), some (.inr (.inr (.inr (.inr (50, oa))))), some (.inr (.inr (.inr (.inr (51, od))))), some (.inl (nI i)), some (.inl r.1), some (.inl w)] [] (rM M1 m F') nc' ns' := fun nc' ns' a1 a2 => LL.wk hw (hK _ nc' ns' ⟨F', (hN F' hP).eq (rM_eq (by omega)), rM_ie (fun c j c1 c2 => if_pos ⟨c1, c2⟩)⟩ a1 a2)
  refine ⟨⟨by show nc + 1 + 0 + 0 ≤ 601024; omega, by show ns + 6 + 0 + 0 ≤ 7293034; omega⟩, Ct.mono (cr_thrown hl0 M1 F') ?_⟩
  rintro o M3 ⟨rfl, rfl⟩
  refine ⟨fun _ => ⟨fun _ => fin _ _ (by show nc + 1 + 0 + 0 ≤ _; omega) (by show ns + 6 + 0 + 0 ≤ _; omega), fun hz => ⟨vp_in_iff.mpr (by decide), fun _ => fin _ _ (by show nc + 1 + 0 + 0 ≤ _; omega) (by show ns + 6 + 0 + 0 ≤ _; omega), fun hne => absurd ?_ hne⟩⟩, fun hne => absurd c0 hne⟩
  have hz' : r.1 = 0 := hz
  show lg_cmp (mL M1 oa 0) w.toInt64 = 0
  rw [hv hz', hw' hz']
  exact lg_self
set_option maxRecDepth 20000 in
theorem lc_restore (hl0 : l.stackTraces = false) {b L x m oa od T i nc ns : Nat} {xs : Nat → Int32} {M : EM} {F : FM} {Q : EO → EM → Prop} {K : Nat → EK} (hc : e_clo (pgL_32 l g L xs) (e_ret sg_L_law Q) K) (hw : e_wk K) (hJ : JD M x F T) (hM : rM M m F = M) (hT : T + 100 < 2 ^ 20) (hl : x + 2232 ≤ m ∧ m + 14 ≤ oa ∧ m + 14 ≤ od) (hi : i + 7 ≤ L) (hL : L ≤ 3584) (hr : nc + 6 ≤ 601024 ∧ ns + 36 ≤ 7293034)
    (hK : ∀ M' nc' ns', (∃ F', JD M' x F' (T + 9) ∧ rM M' m F' = M') → nc' ≤ nc + 6 → ns' ≤ ns + 36 → K 2544 (LL b x m oa od i) [] M' nc' ns') : K 2488 (LL b x m oa od i) [] M nc ns := by
  obtain ⟨r, Pf, hk, h1, h2⟩ := px_restore hl0 hJ (m := m) (xs (nI i + 1).toNatClampNeg)
  refine e_step rfl hc 100 [2544] ?_
  refine ⟨⟨rfl, xin (k := 1) (by omega) hL⟩, ⟨by show nc + 2 ≤ 601024; omega, by show ns + 12 ≤ 7293034; omega⟩, CtH.mono (cw_restore hl0 _ hk h1) ?_⟩
  rintro o M1 ⟨⟨hW⟩⟩
  obtain ⟨⟨e1, hN⟩, hv, rfl⟩ := WP.mid hW hM hl.1 hl.2.1 (fun M1 M2 hn he F' hF' => (hn F' hF').eq he)
  have h2' := h2 M1
  rw [e1] at h2'
  refine ⟨⟨rfl, xin (k := 1) (by omega) hL⟩, ⟨by show nc + 2 + 0 ≤ 601024; omega, by show ns + 12 + 0 ≤ 7293034; omega⟩, Ct.mono h2' ?_⟩
  rintro o M2 ⟨⟨F', ⟨rfl, c0⟩, ⟨w, rfl, hw'⟩, hP⟩⟩
  have fin : ∀ nc' ns', nc' ≤ nc + 6 → ns' ≤ ns + 36 → K 2544 [some (.inr (.inr (.inr (.inr (216, b))))), some (.inr (.inr (.inr (.inr (1, x))))), some (.inr (.inr (.inr (.inr (30, m))))), some (.inr (.inr (.inr (.inr (50, oa))))), some (.inr (.inr (.inr (.inr (51, od))))), some (.inl (nI i)), some (.inl r.1), some (.inl w)] [] (rM M1 m F') nc' ns' := fun nc' ns' a1 a2 => LL.wk hw (hK _ nc' ns' ⟨F', (hN F' hP).eq (rM_eq (by omega)), rM_ie (fun c j c1 c2 => if_pos ⟨c1, c2⟩)⟩ a1 a2)
  refine ⟨⟨by show nc + 2 + 0 + 0 ≤ 601024; omega, by show ns + 12 + 0 + 0 ≤ 7293034; omega⟩, Ct.mono (cr_thrown hl0 M1 F') ?_⟩
  rintro o M3 ⟨rfl, rfl⟩
  refine ⟨fun _ => ⟨fun _ => fin _ _ (by show nc + 2 + 0 + 0 ≤ _; omega) (by show ns + 12 + 0 + 0 ≤ _; omega), fun hz => ⟨vp_in_iff.mpr (by decide), fun _ => fin _ _ (by show nc + 2 + 0 + 0 ≤ _; omega) (by show ns + 12 + 0 + 0 ≤ _; omega), fun hne => absurd ?_ hne⟩⟩, fun hne => absurd c0 hne⟩
  have hz' : r.1 = 0 := hz
  show lg_cmp (mL M1 oa 0) w.toInt64 = 0
  rw [hv hz', hw' hz']
  exact lg_self
end
