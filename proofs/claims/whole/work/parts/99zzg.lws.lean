/-! THE LAW, 4: its beginning. -/
theorem run_gh {p : Program} {l : Launch} {e : Env} {g : EG} {σ : SG} {R : Room} {s : State} {m : MethodId} {args : Array Value} {below : List Frame} {meth : Method} {c : Code} {ex : Option Nat} {M : EM} {Q : EO → EM → Prop} : e_gh g ex M (fun t ls st M' nc ns => Run p l e g σ R s m args below meth c ex M Q t ls st M' nc ns) := by
  intro t ls ls' st st' M1 M2 nc ns h2 hk hls hst hc h H locs lsM hl ok le vl vs hS hF
  have hlt := e_St_lt hS
  obtain ⟨ok', le', vl', vs'⟩ := hc hlt ok le vl vs
  have hN : mN M2 = mN M1 := congrArg (fun z => z.2.2.2.1) h2
  have hI : mI M2 = mI M1 := congrArg (fun z => z.1) h2
  have hL : mL M2 = mL M1 := congrArg (fun z => z.2.1) h2
  have hP : mP M2 = mP M1 := congrArg (fun z => z.2.2.1) h2
  have hA : mA M2 = mA M1 := congrArg (fun z => z.2.2.2.2) h2
  have he : ∀ b, e_ent g M2 b = e_ent g M1 b := fun b => by
    unfold e_ent
    rw [hk b]
    cases e_kd (mT M1 b) with
    | none => rfl
    | some q =>
      cases q with
      | inl ci =>
        simp only [Sum.inr.injEq, Prod.mk.injEq, true_and]
        apply List.map_congr_left
        intro k _
        unfold e_fv
        rw [hI, hL, hP]
      | inr q =>
        simp only [Sum.inl.injEq, Prod.mk.injEq, true_and]
        unfold e_arr
        rw [hI, hL, hP]
  have hwd2 : e_wd g M2 = e_wd g M1 := by
    unfold e_wd
    rw [hA]
    exact va_pl_congr he
  have hS2 : e_St g M2 H := ⟨hS.1.trans hN.symm, by rw [hwd2]; exact hS.2.1, by rw [hwd2]; exact hS.2.2⟩
  have r := h H locs lsM (by rw [hls]; exact hl) ok' le' vl' vs' hS2 hF
  rw [hst] at r
  exact r
theorem run_kn {p : Program} {l : Launch} {e : Env} {g : EG} {σ : SG} {R : Room} {s : State} {m : MethodId} {args : Array Value} {below : List Frame} {meth : Method} {c : Code} {ex : Option Nat} {M : EM} {Q : EO → EM → Prop} : e_kn g ex M (fun t ls st M' nc ns => Run p l e g σ R s m args below meth c ex M Q t ls st M' nc ns) := by
  intro t ls st M1 nc ns h H locs lsM hl ok le vl vs hS hF
  exact h (e_St_lt hS) ok le vl vs H locs lsM hl ok le vl vs hS hF
section
variable {l : Launch} {g : EG}
set_option maxRecDepth 20000 in
theorem law_start (hl0 : l.stackTraces = false) {b L : Nat} {xs : Nat → Int32} {Q : EO → EM → Prop} {K : Nat → EK} {M0 : EM} (hc : LC l g L xs Q K) (hgh : e_gh g none M0 K) (hA0 : mA M0 = []) (hb : b < mN M0) (hgb : gS g 16 = b) (hQ : ∀ M, Q (.inl (some (.inl 1))) M) (hL : L ≤ 3584) : K 0 (e_l0 8 [.inr (.inr (.inr (.inr (216, b))))]) [] M0 0 0 := by
  have ok0 : e_ok M0 := fun a ha => by rw [hA0] at ha; nomatch ha
  have lt0 : ∀ c ∈ mA M0, c < mN M0 := fun a ha => by rw [hA0] at ha; nomatch ha
  refine e_step rfl hc.2.1 60 [7] ?_
  refine Ct.mono (cn_CalendarSync hl0 (sNew M0 101) (b := mN M0) rfl (fun j => ⟨by rw [mI_sNew, if_pos rfl], by rw [mL_sNew, if_pos rfl]⟩) (fun k => by rw [mP_sNew, if_pos rfl])) ?_
  rintro o M2 ⟨⟨⟨cp, z⟩, rfl⟩⟩
  refine gh_new (M := M0) (t := 101) hgh ok0 lt0 rfl cp lt0 (fun h => by cases h) ⟨hb, trivial⟩ trivial ?_
  have n2 : mN (rW M2 (mN M0)) = mN M0 + 2232 := cp.1
  refine e_step rfl hc.2.1 60 [15] ?_
  refine Ct.mono (cn_Model hl0 (sNew (rW M2 (mN M0)) 130) (b := mN (rW M2 (mN M0))) rfl (fun j => by rw [mI_sNew, if_pos rfl]) (fun k => by rw [mP_sNew, if_pos rfl])) ?_
  rintro o M4 ⟨⟨⟨n4, f4, ⟨a4, t4⟩, r4⟩, rfl⟩⟩
  refine ⟨rfl, [some (.inr (.inr (.inr (.inr (216, b))))), some (.inr (.inr (.inr (.inr (1, mN M0))))), none, none, none, none, none, none], [.inr (.inr (.inr (.inr (30, mN (rW M2 (mN M0))))))], ⟨rfl, rfl⟩, ?_, ?_⟩
  · intro ok4 le4 vl vs
    obtain ⟨hm, ht⟩ := e_vok_in vl.2.1 (k := .inl 9) rfl
    obtain ⟨q1, q2⟩ := le4 _ hm (by intro h9; have := Option.some.inj h9; omega)
    refine ⟨⟨Or.inr (Or.inr (Or.inl ⟨by show 200 ≤ 216; decide, by show 216 < 217; decide, ?_⟩)), Or.inl ⟨q1, q2.trans ht⟩, trivial⟩, Or.inl ⟨a4, t4⟩, trivial⟩
    show b = gS g (216 - 200)
    exact hgb.symm.trans (congrArg (gS g) (show (16 : Nat) = 216 - 200 by decide))
  have e5 : mN (sNew M4 50) = mN M4 + 1 := rfl
  refine e_step rfl hc.2.1 60 [28] ?_
  refine ⟨rfl, rfl, ?_⟩
  refine law_loop hl0 hc hQ (x := mN M0) (m := mN (rW M2 (mN M0))) (oa := mN M4) (od := mN (sNew M4 50)) ⟨by omega, by omega, by omega⟩ hL 512 0 0 _ _ _ mdF (by omega) (by omega) ?_ ?_ (by omega) (by decide) (by decide)
  · refine (JC.ini z 0).eq (fun c c1 c2 j => ?_)
    have k1 : ¬ c = mN (sNew M4 50) := by omega
    have k2 : ¬ c = mN M4 := by omega
    have k3 : ¬ c = mN (rW M2 (mN M0)) := by omega
    obtain ⟨u1, u2, -⟩ := f4 c (by omega) j
    refine ⟨?_, ?_⟩
    · rw [mI_sNew, if_neg k1, mI_sNew, if_neg k2, u1, mI_sNew, if_neg k3]; rfl
    · rw [mL_sNew, if_neg k1, mL_sNew, if_neg k2, u2, mL_sNew, if_neg k3]; rfl
  · refine rM_ie (fun c j c1 c2 => ?_)
    rw [mI_sNew, if_neg (by omega), mI_sNew, if_neg (by omega)]
    exact rM_at r4.symm c1 c2
end
