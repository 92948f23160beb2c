/-! THE LAW, 8: the whole calendar is read. -/
section
variable {B : Nat → Nat} {n : Nat}
theorem SF.all {T : List Nat} (h : ∀ t, t < T.length → B t = T.getD t 0) : SF B T.length 0 T := ⟨Nat.zero_add _, fun i hi => by rw [Nat.zero_add]; exact h i hi⟩
/-- the zones' text, sign by sign -/
theorem HeadT.fst {H : List Nat} (h : HeadT H) (E : List Nat) : ∃ sg s sm, (sg = [] ∨ sg = [45]) ∧ s ≤ 720 ∧ SmT sm ∧ H ++ E = w_zone ++ (32 :: (sg ++ (dgs s ++ (sm ++ (59 :: (w_zone ++ (32 :: ([] ++ (dgs 60 ++ ((32 :: (w_summer ++ (32 :: (dgs 0 ++ (32 :: dgs 100))))) ++ (59 :: E))))))))))) := by
  obtain ⟨k, s, sm, hk, hs, hm, rfl⟩ := h
  obtain ⟨x16, x18, x19, x20, -⟩ := w_txt
  have hsm : ∃ sm', SmT sm' ∧ sm = sm' := by
    rcases hm with rfl | ⟨w, w1, w2, rfl⟩
    · exact ⟨[], Or.inl rfl, rfl⟩
    · refine ⟨_, Or.inr ⟨80, w, w1, by omega, rfl⟩, ?_⟩
      rw [x19]
      simp only [List.nil_append, List.cons_append, List.append_assoc, List.singleton_append]
  obtain ⟨sm', hsm, rfl⟩ := hsm
  rcases hk with rfl | rfl
  · refine ⟨[], s, sm, Or.inl rfl, hs, hsm, ?_⟩
    rw [cT17, x16, x20]
    simp only [List.nil_append, List.append_nil, List.cons_append, List.append_assoc, List.singleton_append]
  · refine ⟨[45], s, sm, Or.inr rfl, hs, hsm, ?_⟩
    rw [x18, x16, x20]
    simp only [List.nil_append, List.cons_append, List.append_assoc, List.singleton_append]
/-- a zone's statement -/
theorem pSt_z {p s nz ne : Nat} {D : Nat → Int32} {sg sm L : List Nat} (hnz : nz < 3) (hsg : sg = [] ∨ sg = [45]) (hs : s ≤ 720) (hsm : SmT sm) (h : SF B n p (w_zone ++ (32 :: (sg ++ (dgs s ++ (sm ++ (59 :: L))))))) : ∃ a p', tS B n p = p ∧ p < n ∧ pSt B n D nz ne p = .inr ((dZ D nz a, nz + 1, ne), p') ∧ tIs B n p' 59 = true ∧ nx B n p' = tS B n (p' + 1) ∧ SF B n (p' + 1) L := by
  have hs0 : tS B n p = p := tS_c (c := 122) h rfl
  have hp : p < n := (SF.hd (c := 122) h).1
  obtain ⟨a1, a2, a3, -⟩ := W_tok (a := 122) h (lW (by decide)) (by decide) noL32
  obtain ⟨a, p', b1, b2⟩ := pZn_1 hsg hs hsm a3
  obtain ⟨e1, e2, e3, e4, e5⟩ := E_tok b2
  refine ⟨a, p', hs0, hp, ?_, e3, e4, e5⟩
  unfold pSt
  rw [a1.trans w_hash.1, if_pos rfl, if_neg (by omega), a2, b1, e1]
theorem dZ_far {D : Nat → Int32} {z j : Nat} {r : Int32 × Int32 × Int32} (hz : z < 3) (hj : 12 ≤ j) : dZ D z r j = D j := by
  unfold dZ
  rw [wS_o (by omega), wS_o (by omega), wS_o (by omega)]
/-- the drawn calendar is taken: two zones, k events, nothing moved -/
theorem cal_1 {T : List Nat} {k : Nat} {Dx : Nat → Int32} (hk : k ≤ 5) (hT : CalT k T) (hB : ∀ t, t < T.length → B t = T.getD t 0) : ∃ D t', rCal B T.length Dx = .inr ((D, 2, k), t') ∧ ∀ e, e < 8 → D (12 + 136 * e + 13) = 0 := by
  obtain ⟨H, E, hH, hE, rfl⟩ := hT
  have h0 := SF.all hB
  obtain ⟨sg, s, sm, q1, q2, q3, qe⟩ := hH.fst E
  generalize hn : (H ++ E).length = n at *
  rw [qe] at h0
  obtain ⟨a, p1, a1, a2, a3, a4, a5, a6⟩ := pSt_z (nz := 0) (ne := 0) (D := zD 1100 Dx) (by decide) q1 q2 q3 h0
  obtain ⟨b, p2, b1, b2, b3, b4, b5, b6⟩ := pSt_z (nz := 1) (ne := 0) (D := dZ (zD 1100 Dx) 0 a) (by decide) (Or.inl rfl) (by decide) (Or.inr ⟨0, 100, by decide, by decide, rfl⟩) a6
  have hn8 : 8 ≤ n := by
    have := h0.1
    simp only [List.length_append, List.length_cons] at this
    omega
  obtain ⟨f, rfl⟩ : ∃ f, n = f + 1 := ⟨n - 1, by omega⟩
  obtain ⟨D', t', c1, c2⟩ := pCal_ev k f (dZ (dZ (zD 1100 Dx) 0 a) 1 b) 0 (p2 + 1) E hE.fst (by omega) (by omega) b6
  refine ⟨D', t', ?_, fun e he => ?_⟩
  · unfold rCal
    rw [a1]
    rw [pCal_go a2 a3 a4]
    dsimp only
    rw [a5, b1, pCal_go b2 b3 b4]
    dsimp only
    rw [b5, c1, Nat.zero_add]
  · rw [c2 _ (Or.inr ⟨e, he, by omega, by omega⟩), dZ_far (by decide) (by omega), dZ_far (by decide) (by omega)]
    exact if_pos (by omega)
end
