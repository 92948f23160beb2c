/-! THE LAW, 5: a text is typed, the walk. -/
section
variable {l : Launch} {g : EG}
theorem fr2.tr3 {M M1 M2 : EM} {a b a' b' : Nat} (h : fr2 M M1 a b) (h' : fr2 M1 M2 a' b') (ha : a' = a ∨ a' = b ∨ mN M ≤ a') (hb : b' = a ∨ b' = b ∨ mN M ≤ b') : fr2 M M2 a b :=
  ⟨Nat.le_trans h.1 h'.1, fun c hc => h'.2.1 c (h.2.1 c hc), fun c hc => ⟨(h'.2.2 c (Nat.lt_of_lt_of_le hc h.1)).1.trans (h.2.2 c hc).1, fun h1 h2 => by
    obtain ⟨x1, x2, x3⟩ := (h.2.2 c hc).2 h1 h2
    obtain ⟨y1, y2, y3⟩ := (h'.2.2 c (Nat.lt_of_lt_of_le hc h.1)).2 (by omega) (by omega)
    exact ⟨y1.trans x1, y2.trans x2, y3.trans x3⟩⟩⟩
theorem e_fr.f2 {M M' : EM} {a : Nat} (h : e_fr M M' a (a + 2)) : fr2 M M' a (a + 1) :=
  ⟨by rw [h.n]; exact Nat.le_refl _, fun c hc => by rw [h.a]; exact hc, fun c _ => ⟨by rw [h.t], fun h1 h2 => ⟨funext fun j => (h.2 c j (by omega)).1, funext fun j => (h.2 c j (by omega)).2, by rw [h.p]⟩⟩⟩
theorem OT.fr {M M' : EM} {xq c a b : Nat} {T : List Nat} (h : OT M xq c T) (f : fr2 M M' a b) (h1 : ¬ xq = a ∧ ¬ xq = b) (h2 : ¬ c = a ∧ ¬ c = b) : OT M' xq c T := by
  obtain ⟨o1, ⟨o2, o3, o4, o5⟩, o6, o7, o8, o9⟩ := h
  obtain ⟨f1, f2, f3⟩ := f
  obtain ⟨t1, u1⟩ := f3 xq o9
  obtain ⟨t2, u2⟩ := f3 c o8
  obtain ⟨i1, -, p1⟩ := u1 h1.1 h1.2
  obtain ⟨i2, -, -⟩ := u2 h2.1 h2.2
  exact ⟨o1, ⟨o2, by rw [p1]; exact o3, f2 _ o4, t2.trans o5⟩, by rw [i1]; exact o6, fun j hj => by rw [i2]; exact o7 j hj, by omega, by omega⟩
theorem BT.mI {M M' : EM} {a nb : Nat} {B : Nat → Nat} (h : BT M a B nb) (e0 : mI M' a = mI M a) (e1 : mI M' (a + 1) = mI M (a + 1)) : BT M' a B nb := ⟨⟨h.1.1, fun j hj => ⟨by rw [e1]; exact (h.1.2 j hj).1, (h.1.2 j hj).2⟩⟩, by rw [e0]; exact h.2⟩
abbrev lvD (x : Nat) : EV := .inr (.inr (.inr (.inr (1, x))))
abbrev lvT (q : Nat × Nat) : EV := .inr (.inr (.inr (.inr q)))
set_option maxRecDepth 100000 in
theorem c_type (hl0 : l.stackTraces = false) {M : EM} {x xq c : Nat} {T : List Nat} {B0 : Nat → Nat} (hO : OT M xq c T) (hT : T.length ≤ 320) (hq : x + 50 ≤ xq ∧ x + 50 ≤ c) (hB : BT M (x + 48) B0 0) : Ct l g sg_L_type [lvD x, lvT (56, xq)] M (fun o M' => BX (o = .inl (some (.inl (nI T.length))) ∧ ∃ B nb, BT M' (x + 48) B nb ∧ T.length ≤ nb ∧ (∀ t, t < T.length → B t = T.getD t 0) ∧ fr2 M M' (x + 48) (x + 49))) := by
  have hxm : x + 50 < mN M := by have := hO.2.2.2.2; omega
  have hlen : ∀ M', fr2 M M' (x + 48) (x + 49) → Ct l g sg_J0_length_8abf5 [lvT (56, xq)] M' (fun o M2 => M2 = M' ∧ o = .inl (some (.inl (nI T.length)))) := fun M' hf => by
    have h9 := hO.fr hf ⟨by omega, by omega⟩ ⟨by omega, by omega⟩
    exact j_len hl0 (h9.txt (a := x) (b := x) (by omega) (by omega) (by omega) (by omega))
  have hat : ∀ M' k, fr2 M M' (x + 48) (x + 49) → k < T.length → Ct l g sg_J0_charAt_5068e [lvT (56, xq), .inl (nI k)] M' (fun o M2 => M2 = M' ∧ o = .inl (some (.inl (nI (T.getD k 0))))) := fun M' k hf hk => j_at hl0 (hO.fr hf ⟨by omega, by omega⟩ ⟨by omega, by omega⟩) (by omega) hk
  refine sem_ofF hl0 mt_L_type ok_L_type rfl (fun K hc hw => e_step rfl hc 60 [2] ?_)
  have gc1 : gmc sg_J0_length_8abf5 = 0 := rfl
  have gs1 : gms sg_J0_length_8abf5 = 0 := rfl
  have gc2 : gmc sg_J0_charAt_5068e = 0 := rfl
  have gs2 : gms sg_J0_charAt_5068e = 0 := rfl
  have gc3 : gmc sg_X10_feed = 1 := rfl
  have gs3 : gms sg_X10_feed = 6 := rfl
  have gc4 : gmc sg_L_type = 34 := rfl
  have gs4 : gms sg_L_type = 187 := rfl
  have vp5 : ∀ j, j < 5 → vp_in (nI j) 5 := fun j hj => vp_in_nI hj (by decide)
  have inner : ∀ d q i y M1 M2 nc ns, d + q = 20 → 20 * i < T.length → fr2 M M1 (x + 48) (x + 49) → y = mN M1 → fr2 (sNew M1 53) M2 y y → (∀ j, j < 5 → mI M2 y j = nI (pw T (20 * i + 4 * j) (min 4 (q - 4 * j)))) → nc ≤ 2 * i + 1 → ns ≤ 11 * i + 5 →
      (∀ M3, fr2 (sNew M1 53) M3 y y → (∀ j, j < 5 → mI M3 y j = nI (pw T (20 * i + 4 * j) 4)) → K 90 [some (lvD x), some (lvT (56, xq)), some (.inl (nI (20 * i))), some (lvT (53, y)), none] [] M3 nc ns) →
      K 37 [some (lvD x), some (lvT (56, xq)), some (.inl (nI (20 * i))), some (lvT (53, y)), some (.inl (nI q))] [] M2 nc ns := by
    intro d
    induction d with
    | zero =>
      intro q i y M1 M2 nc ns hd hi hf1 hy hf2 hv hnc hns ih90
      obtain rfl : q = 20 := by omega
      refine e_step rfl hc 60 [90] ?_
      refine ⟨fun _ => ?_, fun h9 => absurd (nI_le (Nat.le_refl 20) (by decide)) h9⟩
      refine hw _ _ _ _ _ _ _ ?_ (ih90 M2 hf2 (fun j hj => by rw [hv j hj, show min 4 (20 - 4 * j) = 4 by omega]))
      exact ⟨rfl, rfl, rfl, rfl, trivial⟩
    | succ d ih =>
      intro q i y M1 M2 nc ns hd hi hf1 hy hf2 hv hnc hns ih90
      have hq20 : q < 20 := by omega
      have hff : fr2 M M2 (x + 48) (x + 49) := (hf1.tr3 (fr2.new (a := y)) (Or.inr (Or.inr (by rw [hy]; exact hf1.1))) (Or.inr (Or.inr (by rw [hy]; exact hf1.1)))).tr3 hf2 (Or.inr (Or.inr (by rw [hy]; exact hf1.1))) (Or.inr (Or.inr (by rw [hy]; exact hf1.1)))
      have ed : nI q / 4 = nI (q / 4) := pk_div (a := q) (d := 4) (by omega) (by decide) (by decide)
      have ck : (nI q / 4).toNatClampNeg = q / 4 := by rw [ed]; exact nI_clamp (by omega)
      have hvp : vp_in (nI q / 4) 5 := by rw [ed]; exact vp5 _ (by omega)
      have ea : nI (20 * i) + nI q = nI (20 * i + q) := nI_add _ _
      have tok := hO.1
      have h82 : K 82 [some (lvD x), some (lvT (56, xq)), some (.inl (nI (20 * i))), some (lvT (53, y)), some (.inl (nI q))] [.inl (nI (pad T (20 * i + q))), .inl (mI M2 y (nI q / 4).toNatClampNeg <<< ((8 : Int32) &&& 31)), .inl (nI q / 4), lvT (53, y)] M2 nc ns := e_step rfl hc 60 [37] (by
        refine ⟨hvp, ?_⟩
        show K 37 [some (lvD x), some (lvT (56, xq)), some (.inl (nI (20 * i))), some (lvT (53, y)), some (.inl (nI q + 1))] [] (sI M2 y (nI q / 4).toNatClampNeg ((mI M2 y (nI q / 4).toNatClampNeg <<< ((8 : Int32) &&& 31)) ||| nI (pad T (20 * i + q)))) nc ns
        have e9 : (mI M2 y (nI q / 4).toNatClampNeg <<< ((8 : Int32) &&& 31)) ||| nI (pad T (20 * i + q)) = nI (pw T (20 * i + 4 * (q / 4)) (q % 4 + 1)) := by
          rw [ck, hv (q / 4) (by omega), show min 4 (q - 4 * (q / 4)) = q % 4 by omega, show 20 * i + q = 20 * i + 4 * (q / 4) + q % 4 by omega]
          exact pw_step tok _ (by omega)
        rw [e9, ck, nI_1]
        refine ih (q + 1) i y M1 _ nc ns (by omega) hi hf1 hy (hf2.cmp fr2.sI) (fun j hj => ?_) hnc hns ih90
        rw [mI_sI2]
        by_cases hj2 : j = q / 4
        · rw [if_pos ⟨rfl, hj2⟩, hj2, show min 4 (q + 1 - 4 * (q / 4)) = q % 4 + 1 by omega]
        · rw [if_neg (fun z => hj2 z.2), hv j hj, show min 4 (q + 1 - 4 * j) = min 4 (q - 4 * j) by omega])
      refine e_step rfl hc 60 [82] ?_
      refine ⟨fun h9 => absurd h9 (nI_ge hq20 (by decide)), fun _ => ⟨(by decide : ¬ (4 : Int32) = 0), (by decide : ¬ (4 : Int32) = 0), hvp, Or.inl rfl, ⟨by omega, by omega⟩, Ct.mono (hlen M2 hff) ?_⟩⟩
      rintro o M4 ⟨rfl, rfl⟩
      refine ⟨fun h9 => ?_, fun h9 => ?_⟩
      · have h9' : nI T.length ≤ nI (20 * i) + nI q := h9
        rw [ea] at h9'
        have h8 : T.length ≤ 20 * i + q := (nI_leI (by omega) (by omega)).mp h9'
        have e8 : nI (pad T (20 * i + q)) = 32 := by unfold pad; rw [if_neg (by omega)]; rfl
        rw [e8] at h82
        exact h82
      · have h9' : ¬ nI T.length ≤ nI (20 * i) + nI q := h9
        rw [ea] at h9'
        have h8 : 20 * i + q < T.length := by
          by_cases h7 : 20 * i + q < T.length
          · exact h7
          · exact absurd (nI_le (by omega) (by omega)) h9'
        refine ⟨Or.inl rfl, ⟨by omega, by omega⟩, Ct.mono (show Ct l g sg_J0_charAt_5068e [lvT (56, xq), .inl (nI (20 * i) + nI q)] M4 _ from by rw [ea]; exact hat M4 _ hff h8) ?_⟩
        rintro o M5 ⟨rfl, rfl⟩
        have e8 : pad T (20 * i + q) = T.getD (20 * i + q) 0 := by unfold pad; rw [if_pos h8]
        rw [e8] at h82
        exact h82
  have outer : ∀ d i M1 B nc ns, d + 20 * i ≤ 340 → (T.length ≤ 20 * i + d) → fr2 M M1 (x + 48) (x + 49) → BT M1 (x + 48) B (20 * i) → (∀ t, t < 20 * i → B t = pad T t) → nc ≤ 2 * i → ns ≤ 11 * i → K 2 [some (lvD x), some (lvT (56, xq)), some (.inl (nI (20 * i))), none, none] [] M1 nc ns := by
    intro d
    induction d using Nat.strongRecOn with
    | ind d ih =>
      intro i M1 B nc ns hd hdl hf hB1 hP hnc hns
      refine e_step rfl hc 60 [37, 116] ?_
      refine ⟨Or.inl rfl, ⟨by omega, by omega⟩, Ct.mono (hlen M1 hf) ?_⟩
      rintro o M2 ⟨rfl, rfl⟩
      refine ⟨fun h9 => ?_, fun h9 => ?_⟩
      · have h8 : T.length ≤ 20 * i := (nI_leI (by omega) (by omega)).mp h9
        refine e_step rfl hc 60 [] ?_
        refine ⟨Or.inl rfl, ⟨by omega, by omega⟩, Ct.mono (hlen M2 hf) ?_⟩
        rintro o M3 ⟨rfl, rfl⟩
        exact ⟨by omega, by omega, ⟨⟨rfl, B, 20 * i, hB1, h8, fun t ht => by rw [hP t (by omega)]; unfold pad; rw [if_pos ht], hf⟩⟩⟩
      · have h8 : 20 * i < T.length := by
          by_cases h7 : 20 * i < T.length
          · exact h7
          · exact absurd (nI_le (by omega) (by omega)) h9
        obtain ⟨y, hy⟩ : ∃ y, y = mN M2 := ⟨_, rfl⟩
        have hym : mN M ≤ y := by rw [hy]; exact hf.1
        refine ⟨⟨by omega, by omega⟩, rfl, vp5 0 (by decide), vp5 1 (by decide), vp5 2 (by decide), vp5 3 (by decide), vp5 4 (by decide), ?_⟩
        have hfz : fr2 (sNew M2 53) (sI (sI (sI (sI (sI (sNew M2 53) (mN M2) 0 0) (mN M2) 1 0) (mN M2) 2 0) (mN M2) 3 0) (mN M2) 4 0) (mN M2) (mN M2) := (((fr2.sI.cmp fr2.sI).cmp fr2.sI).cmp fr2.sI).cmp fr2.sI
        have hz : ∀ j, j < 5 → mI (sI (sI (sI (sI (sI (sNew M2 53) (mN M2) 0 0) (mN M2) 1 0) (mN M2) 2 0) (mN M2) 3 0) (mN M2) 4 0) (mN M2) j = nI (pw T (20 * i + 4 * j) (min 4 (0 - 4 * j))) := by
          intro j hj
          rw [Nat.zero_sub, Nat.min_zero, mI_sI2, mI_sI2, mI_sI2, mI_sI2, mI_sI2]
          show _ = (0 : Int32)
          repeat' split
          all_goals first | rfl | (rw [mI_sNew, if_pos rfl])
        refine inner 20 0 i (mN M2) M2 _ _ _ (by omega) h8 hf rfl hfz hz (by omega) (by omega) (fun M3 hf3 hv3 => e_step rfl hc 60 [2] ?_)
        have hff : fr2 M M3 (x + 48) (x + 49) := (hf.tr3 (fr2.new (a := mN M2)) (Or.inr (Or.inr hf.1)) (Or.inr (Or.inr hf.1))).tr3 hf3 (Or.inr (Or.inr hf.1)) (Or.inr (Or.inr hf.1))
        have hx2 : x + 50 < mN M2 := Nat.lt_of_lt_of_le hxm hf.1
        have f23 : fr2 M2 M3 (mN M2) (mN M2) := (fr2.new (a := mN M2)).cmp hf3
        have hB3 : BT M3 (x + 48) B (20 * i) := hB1.mI ((f23.2.2 (x + 48) (by omega)).2 (by omega) (by omega)).1 ((f23.2.2 (x + 49) (by omega)).2 (by omega) (by omega)).1
        refine ⟨vp5 0 (by decide), vp5 1 (by decide), vp5 2 (by decide), vp5 3 (by decide), vp5 4 (by decide), ⟨by omega, by omega⟩, ?_⟩
        refine Ct.mono (show Ct l g sg_X10_feed [lvD x, .inl (mI M3 (mN M2) 0), .inl (mI M3 (mN M2) 1), .inl (mI M3 (mN M2) 2), .inl (mI M3 (mN M2) 3), .inl (mI M3 (mN M2) 4)] M3 _ from by
          rw [hv3 0 (by decide), hv3 1 (by decide), hv3 2 (by decide), hv3 3 (by decide), hv3 4 (by decide)]
          exact ca_feed0 hl0 M3 hB3 (by omega)) ?_
        rintro o M4 ⟨⟨⟨hf4, hB4⟩, rfl⟩⟩
        have e20 : nI (20 * i) + 20 = nI (20 * (i + 1)) := nI_add (20 * i) 20
        have fin := ih (d - 20) (by omega) (i + 1) M4 _ (nc + gmc sg_J0_length_8abf5 + 1 + gmc sg_X10_feed) (ns + gms sg_J0_length_8abf5 + 5 + gms sg_X10_feed) (by omega) (by omega) (hff.tr3 hf4.f2 (Or.inl rfl) (Or.inr (Or.inl rfl))) hB4 (fun t ht => by
          by_cases h6 : t < 20 * i
          · rw [in20_lo h6]; exact hP t h6
          · obtain ⟨t', rfl⟩ : ∃ t', t = 20 * i + t' := ⟨t - 20 * i, by omega⟩
            exact in20_p hO.1 (by omega)) (by omega) (by omega)
        rw [← e20] at fin
        refine hw _ _ _ _ _ _ _ ?_ fin
        exact ⟨rfl, rfl, rfl, trivial⟩
  exact outer 320 0 M B0 0 0 (by omega) (by omega) fr2.rf hB (fun t ht => absurd ht (by omega)) (Nat.le_refl _) (Nat.le_refl _)
end
