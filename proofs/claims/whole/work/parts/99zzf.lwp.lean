/-! THE LAW, 3: the loop. -/
section
variable {l : Launch} {g : EG}
theorem e_each_get {φ : Nat → Nat → ES → Prop} : ∀ {L : List (Nat × ES)}, e_each φ L → ∀ (i : Nat) {q : Nat × ES}, L[i]? = some q → φ q.1 (e_npc (L.drop (i + 1))) q.2
  | [], _, _, _, h => by simp at h
  | a :: r, hs, 0, q, h => by
    have : a = q := by simpa using h
    subst this
    exact hs.1
  | a :: r, hs, i + 1, q, h => e_each_get (L := r) hs.2 i (by simpa using h)
theorem e_row {prog : List (Nat × ES)} {ret : EO → EM → Nat → Nat → Prop} {K : Nat → EK} (hc : e_clo prog ret K) (i : Nat) {pc np : Nat} {f : ES} (h : prog[i]? = some (pc, f)) (hn : e_npc (prog.drop (i + 1)) = np) {ls : List (Option EV)} {st : List EV} {M : EM} {nc ns : Nat} (hf : f ret K (K np) ls st M nc ns) : K pc ls st M nc ns := by
  have h1 := e_each_get hc i h
  rw [hn] at h1
  exact h1 K (fun _ _ _ _ _ _ h => h) ls st M nc ns hf
theorem e_sw_all {J : Nat → EK} {dt : Nat} {ls : List (Option EV)} {r : List EV} {M : EM} {nc ns : Nat} {x : Int32} : ∀ {lo : Int} {ts : List Nat}, (∀ t ∈ ts, J t ls r M nc ns) → J dt ls r M nc ns → e_sw J dt ls r M nc ns x lo ts
  | _, [], _, h => fun _ => h
  | _, t :: ts, h1, h => ⟨fun _ => h1 t List.mem_cons_self, fun _ => e_sw_all (fun t' ht => h1 t' (List.mem_cons_of_mem _ ht)) h⟩
/-- the segments of the law's body, for one K -/
def LC (l : Launch) (g : EG) (L : Nat) (xs : Nat → Int32) (Q : EO → EM → Prop) (K : Nat → EK) : Prop := e_wk K ∧ e_clo (pgL_A l g L xs) (e_ret sg_L_law Q) K ∧ e_clo (pgL_Z l g L xs) (e_ret sg_L_law Q) K ∧ e_clo (pgL_0 l g L xs) (e_ret sg_L_law Q) K ∧ e_clo (pgL_1 l g L xs) (e_ret sg_L_law Q) K ∧ e_clo (pgL_2 l g L xs) (e_ret sg_L_law Q) K ∧ e_clo (pgL_3 l g L xs) (e_ret sg_L_law Q) K ∧ e_clo (pgL_4 l g L xs) (e_ret sg_L_law Q) K ∧ e_clo (pgL_5 l g L xs) (e_ret sg_L_law Q) K ∧ e_clo (pgL_6 l g L xs) (e_ret sg_L_law Q) K ∧ e_clo (pgL_7 l g L xs) (e_ret sg_L_law Q) K ∧ e_clo (pgL_8 l g L xs) (e_ret sg_L_law Q) K ∧ e_clo (pgL_9 l g L xs) (e_ret sg_L_law Q) K ∧ e_clo (pgL_10 l g L xs) (e_ret sg_L_law Q) K ∧ e_clo (pgL_11 l g L xs) (e_ret sg_L_law Q) K ∧ e_clo (pgL_12 l g L xs) (e_ret sg_L_law Q) K ∧ e_clo (pgL_13 l g L xs) (e_ret sg_L_law Q) K ∧ e_clo (pgL_14 l g L xs) (e_ret sg_L_law Q) K ∧ e_clo (pgL_15 l g L xs) (e_ret sg_L_law Q) K ∧ e_clo (pgL_16 l g L xs) (e_ret sg_L_law Q) K ∧ e_clo (pgL_17 l g L xs) (e_ret sg_L_law Q) K ∧ e_clo (pgL_18 l g L xs) (e_ret sg_L_law Q) K ∧ e_clo (pgL_19 l g L xs) (e_ret sg_L_law Q) K ∧ e_clo (pgL_20 l g L xs) (e_ret sg_L_law Q) K ∧ e_clo (pgL_21 l g L xs) (e_ret sg_L_law Q) K ∧ e_clo (pgL_22 l g L xs) (e_ret sg_L_law Q) K ∧ e_clo (pgL_23 l g L xs) (e_ret sg_L_law Q) K ∧ e_clo (pgL_24 l g L xs) (e_ret sg_L_law Q) K ∧ e_clo (pgL_25 l g L xs) (e_ret sg_L_law Q) K ∧ e_clo (pgL_26 l g L xs) (e_ret sg_L_law Q) K ∧ e_clo (pgL_27 l g L xs) (e_ret sg_L_law Q) K ∧ e_clo (pgL_28 l g L xs) (e_ret sg_L_law Q) K ∧ e_clo (pgL_29 l g L xs) (e_ret sg_L_law Q) K ∧ e_clo (pgL_30 l g L xs) (e_ret sg_L_law Q) K ∧ e_clo (pgL_31 l g L xs) (e_ret sg_L_law Q) K ∧ e_clo (pgL_32 l g L xs) (e_ret sg_L_law Q) K
theorem law_cases (hl0 : l.stackTraces = false) {b L x m oa od T i nc ns : Nat} {xs : Nat → Int32} {M : EM} {F : FM} {Q : EO → EM → Prop} {K : Nat → EK} (hc : LC l g L xs Q K) (hJ : JD M x F T) (hM : rM M m F = M) (hT : T + 100 < 2 ^ 20) (hl : x + 2232 ≤ m ∧ m + 14 ≤ oa ∧ m + 14 ≤ od) (hi : i + 7 ≤ L) (hL : L ≤ 3584) (hr : nc + 6 ≤ 601024 ∧ ns + 36 ≤ 7293034)
    (hK : ∀ M' nc' ns', (∃ F', JD M' x F' (T + 9) ∧ rM M' m F' = M') → nc' ≤ nc + 6 → ns' ≤ ns + 36 → K 2544 (LL b x m oa od i) [] M' nc' ns') (v : Int32) : K 45 (LL b x m oa od i) [.inl v] M nc ns := by
  obtain ⟨hw, hA, hZ, h0, h1, h2, h3, h4, h5, h6, h7, h8, h9, h10, h11, h12, h13, h14, h15, h16, h17, h18, h19, h20, h21, h22, h23, h24, h25, h26, h27, h28, h29, h30, h31, h32⟩ := hc
  refine e_row hA 27 rfl rfl ?_
  show e_sw _ _ _ _ _ _ _ _ _ _
  refine e_sw_all ?_ (hK M nc ns ⟨F, ?_, hM⟩ (by omega) (by omega))
  · intro t ht
    simp only [List.mem_cons, List.not_mem_nil, or_false] at ht
    rcases ht with rfl | rfl | rfl | rfl | rfl | rfl | rfl | rfl | rfl | rfl | rfl | rfl | rfl | rfl | rfl | rfl | rfl | rfl | rfl | rfl | rfl | rfl | rfl | rfl | rfl | rfl | rfl | rfl | rfl | rfl | rfl | rfl | rfl
    · exact lc_feed hl0 h0 hw hJ hM hT hl hi hL hr hK
    · exact lc_load hl0 h1 hw hJ hM hT hl hi hL hr hK
    · exact lc_errorCode hl0 h2 hw hJ hM hT hl hi hL hr hK
    · exact lc_errorPosition hl0 h3 hw hJ hM hT hl hi hL hr hK
    · exact lc_day hl0 h4 hw hJ hM hT hl hi hL hr hK
    · exact lc_zone hl0 h5 hw hJ hM hT hl hi hL hr hK
    · exact lc_moment hl0 h6 hw hJ hM hT hl hi hL hr hK
    · exact lc_events hl0 h7 hw hJ hM hT hl hi hL hr hK
    · exact lc_event hl0 h8 hw hJ hM hT hl hi hL hr hK
    · exact lc_date hl0 h9 hw hJ hM hT hl hi hL hr hK
    · exact lc_answer hl0 h10 hw hJ hM hT hl hi hL hr hK
    · exact lc_agenda hl0 h11 hw hJ hM hT hl hi hL hr hK
    · exact lc_agendaAt hl0 h12 hw hJ hM hT hl hi hL hr hK
    · exact lc_clashes hl0 h13 hw hJ hM hT hl hi hL hr hK
    · exact lc_busy hl0 h14 hw hJ hM hT hl hi hL hr hK
    · exact lc_busyBits hl0 h15 hw hJ hM hT hl hi hL hr hK
    · exact lc_isSame hl0 h16 hw hJ hM hT hl hi hL hr hK
    · exact lc_clock hl0 h17 hw hJ hM hT hl hi hL hr hK
    · exact lc_side hl0 h18 hw hJ hM hT hl hi hL hr hK
    · exact lc_account hl0 h19 hw hJ hM hT hl hi hL hr hK
    · exact lc_create hl0 h20 hw hJ hM hT hl hi hL hr hK
    · exact lc_repeat hl0 h21 hw hJ hM hT hl hi hL hr hK
    · exact lc_cancel hl0 h22 hw hJ hM hT hl hi hL hr hK
    · exact lc_move hl0 h23 hw hJ hM hT hl hi hL hr hK
    · exact lc_reply hl0 h24 hw hJ hM hT hl hi hL hr hK
    · exact lc_remove hl0 h25 hw hJ hM hT hl hi hL hr hK
    · exact lc_setZone hl0 h26 hw hJ hM hT hl hi hL hr hK
    · exact lc_push hl0 h27 hw hJ hM hT hl hi hL hr hK
    · exact lc_pull hl0 h28 hw hJ hM hT hl hi hL hr hK
    · exact lc_sync hl0 h29 hw hJ hM hT hl hi hL hr hK
    · exact lc_undo hl0 h30 hw hJ hM hT hl hi hL hr hK
    · exact lc_keep hl0 h31 hw hJ hM hT hl hi hL hr hK
    · exact lc_restore hl0 h32 hw hJ hM hT hl hi hL hr hK
  · obtain ⟨nz, a, c, nb, B, h⟩ := hJ
    exact ⟨nz, a, c, nb, B, h.T (by omega)⟩
theorem law_loop (hl0 : l.stackTraces = false) {b L x m oa od : Nat} {xs : Nat → Int32} {Q : EO → EM → Prop} {K : Nat → EK} (hc : LC l g L xs Q K) (hQ : ∀ M, Q (.inl (some (.inl 1))) M) (hl : x + 2232 ≤ m ∧ m + 14 ≤ oa ∧ m + 14 ≤ od) (hL : L ≤ 3584) :
    ∀ (n i T nc ns : Nat) (M : EM) (F : FM), L < i + 7 * n + 7 → i ≤ 3584 → JD M x F T → rM M m F = M → T + 9 * n + 200 < 2 ^ 20 → nc + 6 * n ≤ 601024 → ns + 36 * n ≤ 7293034 → K 28 (LL b x m oa od i) [] M nc ns := by
  intro n
  induction n with
  | zero =>
    intro i T nc ns M F h1 h0 hJ hM hT hr1 hr2
    refine e_step rfl hc.2.1 60 [45] ?_
    refine ⟨rfl, fun _ => ⟨⟨by decide, by decide⟩, hr1, hr2, hQ M⟩, fun hn => absurd ?_ hn⟩
    show nI i > nI L - nI 7
    show nI L - nI 7 < nI i
    rw [Int32.lt_iff_toInt_lt, pk_sub_toInt (by omega) (by omega), nI_toInt (by omega)]
    omega
  | succ n ih =>
    intro i T nc ns M F h1 h0 hJ hM hT hr1 hr2
    refine e_step rfl hc.2.1 60 [45] ?_
    refine ⟨rfl, fun _ => ⟨⟨by decide, by decide⟩, by show nc ≤ 601024; omega, by show ns ≤ 7293034; omega, hQ M⟩, fun hn => ?_⟩
    have hi : i + 7 ≤ L := by
      apply Classical.byContradiction
      intro hc9
      refine hn ?_
      show nI L - nI 7 < nI i
      rw [Int32.lt_iff_toInt_lt, pk_sub_toInt (by omega) (by omega), nI_toInt (by omega)]
      omega
    refine ⟨⟨rfl, vp_in_nI (by omega) (by omega)⟩, ?_⟩
    refine law_cases hl0 hc hJ hM (by omega) hl hi hL ⟨by omega, by omega⟩ ?_ _
    rintro M' nc' ns' ⟨F', hJ', hM'⟩ a1 a2
    refine e_row hc.2.2.1 0 rfl rfl ?_
    show K 2547 [_, _, _, _, _, some (.inl (nI i + 7)), none, none] [] M' nc' ns'
    rw [show nI i + 7 = nI (i + 7) from nI_add i 7]
    refine e_row hc.2.2.1 1 rfl rfl ?_
    exact ih (i + 7) (T + 9) nc' ns' M' F' (by omega) (by omega) hJ' hM' (by omega) (by omega) (by omega)
end
