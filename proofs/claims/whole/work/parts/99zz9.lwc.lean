/-! CONTRACTS (by program): the law's wrappers. -/
section
variable {l : Launch} {g : EG}
theorem e_aftH_x {τ : SG} {hd : String → Option Nat} {J : Nat → EK} {nx : EK} {ls : List (Option EV)} {r : List EV} {nc ns h : Nat} {E : String} {M' : EM} (he : hd E = some h) (hh : ∀ a, J h ls [.inr (.inr (.inr (.inr (218, a))))] M' (nc + gmc τ) (ns + gms τ)) : e_aftH τ hd J nx ls r nc ns (.inr E) M' := by
  show (match hd E with
    | some h => ∀ a, J h ls [.inr (.inr (.inr (.inr (218, a))))] M' (nc + gmc τ) (ns + gms τ)
    | none => False)
  rw [he]
  exact hh
/-- a wrapper's end: the code; the value in the out array -/
def WP (N : EM → Prop) (c : Int32) (v : Int64) (M : EM) (x oa : Nat) (o : EO) (M' : EM) : Prop := ∃ M1, (e_fo M M1 x (x + 2232) ∧ N M1) ∧ (if c = 0 then M' = sL M1 oa 0 v else M' = M1) ∧ o = .inl (some (.inl c))
theorem WP.y {N : EM → Prop} {v : Int64} {M M1 : EM} {x oa : Nat} (hf : e_fo M M1 x (x + 2232)) (hN : N M1) : WP N 0 v M x oa (.inl (some (.inl 0))) (sL M1 oa 0 v) := ⟨M1, ⟨hf, hN⟩, by rw [if_pos rfl], rfl⟩
theorem WP.n {N : EM → Prop} {c : Int32} {v : Int64} {M M1 : EM} {x oa : Nat} (hc : ¬ c = 0) (hf : e_fo M M1 x (x + 2232)) (hN : N M1) : WP N c v M x oa (.inl (some (.inl c))) M1 := ⟨M1, ⟨hf, hN⟩, by rw [if_neg hc], rfl⟩
theorem cw_feed (hl0 : l.stackTraces = false) {M : EM} {x oa : Nat} {r : Int32 × Int32} {N : EM → Prop} (p0 p1 p2 p3 p4 : Int32) (hk : ∃ k, k ≤ 1 ∧ r.1 = nI k) (h : Ct l g sg_X10_feed [.inr (.inr (.inr (.inr (1, x)))), .inl p0, .inl p1, .inl p2, .inl p3, .inl p4] M (fun o M' => BX ((e_fo M M' x (x + 2232) ∧ ResC exS r o) ∧ N M'))) : CtH l g sg_L_feed [.inr (.inr (.inr (.inr (1, x)))), .inl p0, .inl p1, .inl p2, .inl p3, .inl p4, .inr (.inr (.inr (.inr (50, oa))))] M (fun o M' => BX (WP N r.1 r.2.toInt64 M x oa o M')) := by
  refine sem_ofH hl0 rfl (by decide +kernel) rfl ok_L_feed rfl (fun K hc hw => e_step rfl hc 80 [] ?_)
  refine Ct.mono h ?_
  rintro o M' ⟨⟨⟨hf, hr⟩, hN⟩⟩
  obtain ⟨r1, r2⟩ := r
  obtain ⟨k, k1, k2⟩ := hk
  dsimp only at k2 hr
  subst k2
  obtain rfl | rfl : k = 0 ∨ k = 1 := by omega
  · have hr' : o = .inl (some (.inl r2)) := Eq.mp (if_pos (show (nI 0 : Int32) = 0 from rfl)) hr
    clear hr
    subst hr'
    exact ⟨vp_in_iff.mpr (by decide), by decide, by decide, BX.mk (WP.y hf hN)⟩
  · have hr' : o = .inr (exS (nI 1)) := Eq.mp (if_neg (show ¬ (nI 1 : Int32) = 0 by decide)) hr
    clear hr
    subst hr'
    refine e_aftH_x (h := 19) (show hd_L_feed (exS (nI 1)) = some 19 by decide +kernel) (fun a => ?_)
    exact ⟨by decide, by decide, BX.mk (WP.n (c := nI 1) (show ¬ (nI 1 : Int32) = 0 by decide) hf hN)⟩
theorem cw_load (hl0 : l.stackTraces = false) {M : EM} {x oa : Nat} {r : Int32 × Int32} {N : EM → Prop} (p0 : Int32) (hk : ∃ k, k ≤ 2 ∧ r.1 = nI k) (h : Ct l g sg_X10_load [.inr (.inr (.inr (.inr (1, x)))), .inl p0] M (fun o M' => BX ((e_fo M M' x (x + 2232) ∧ ResC exL r o) ∧ N M'))) : CtH l g sg_L_load [.inr (.inr (.inr (.inr (1, x)))), .inl p0, .inr (.inr (.inr (.inr (50, oa))))] M (fun o M' => BX (WP N r.1 r.2.toInt64 M x oa o M')) := by
  refine sem_ofH hl0 rfl (by decide +kernel) rfl ok_L_load rfl (fun K hc hw => e_step rfl hc 80 [] ?_)
  refine Ct.mono h ?_
  rintro o M' ⟨⟨⟨hf, hr⟩, hN⟩⟩
  obtain ⟨r1, r2⟩ := r
  obtain ⟨k, k1, k2⟩ := hk
  dsimp only at k2 hr
  subst k2
  obtain rfl | rfl | rfl : k = 0 ∨ k = 1 ∨ k = 2 := by omega
  · have hr' : o = .inl (some (.inl r2)) := Eq.mp (if_pos (show (nI 0 : Int32) = 0 from rfl)) hr
    clear hr
    subst hr'
    exact ⟨vp_in_iff.mpr (by decide), by decide, by decide, BX.mk (WP.y hf hN)⟩
  · have hr' : o = .inr (exL (nI 1)) := Eq.mp (if_neg (show ¬ (nI 1 : Int32) = 0 by decide)) hr
    clear hr
    subst hr'
    refine e_aftH_x (h := 12) (show hd_L_load (exL (nI 1)) = some 12 by decide +kernel) (fun a => ?_)
    exact ⟨by decide, by decide, BX.mk (WP.n (c := nI 1) (show ¬ (nI 1 : Int32) = 0 by decide) hf hN)⟩
  · have hr' : o = .inr (exL (nI 2)) := Eq.mp (if_neg (show ¬ (nI 2 : Int32) = 0 by decide)) hr
    clear hr
    subst hr'
    refine e_aftH_x (h := 15) (show hd_L_load (exL (nI 2)) = some 15 by decide +kernel) (fun a => ?_)
    exact ⟨by decide, by decide, BX.mk (WP.n (c := nI 2) (show ¬ (nI 2 : Int32) = 0 by decide) hf hN)⟩
theorem cw_day (hl0 : l.stackTraces = false) {M : EM} {x oa : Nat} {r : Int32 × Int32} {N : EM → Prop} (p0 p1 : Int32) (hk : ∃ k, k ≤ 1 ∧ r.1 = nI k) (h : Ct l g sg_X10_day [.inr (.inr (.inr (.inr (1, x)))), .inl p0, .inl p1] M (fun o M' => BX ((e_fo M M' x (x + 2232) ∧ ResC exA r o) ∧ N M'))) : CtH l g sg_L_day [.inr (.inr (.inr (.inr (1, x)))), .inl p0, .inl p1, .inr (.inr (.inr (.inr (50, oa))))] M (fun o M' => BX (WP N r.1 r.2.toInt64 M x oa o M')) := by
  refine sem_ofH hl0 rfl (by decide +kernel) rfl ok_L_day rfl (fun K hc hw => e_step rfl hc 80 [] ?_)
  refine Ct.mono h ?_
  rintro o M' ⟨⟨⟨hf, hr⟩, hN⟩⟩
  obtain ⟨r1, r2⟩ := r
  obtain ⟨k, k1, k2⟩ := hk
  dsimp only at k2 hr
  subst k2
  obtain rfl | rfl : k = 0 ∨ k = 1 := by omega
  · have hr' : o = .inl (some (.inl r2)) := Eq.mp (if_pos (show (nI 0 : Int32) = 0 from rfl)) hr
    clear hr
    subst hr'
    exact ⟨vp_in_iff.mpr (by decide), by decide, by decide, BX.mk (WP.y hf hN)⟩
  · have hr' : o = .inr (exA (nI 1)) := Eq.mp (if_neg (show ¬ (nI 1 : Int32) = 0 by decide)) hr
    clear hr
    subst hr'
    refine e_aftH_x (h := 13) (show hd_L_day (exA (nI 1)) = some 13 by decide +kernel) (fun a => ?_)
    exact ⟨by decide, by decide, BX.mk (WP.n (c := nI 1) (show ¬ (nI 1 : Int32) = 0 by decide) hf hN)⟩
theorem cw_zone (hl0 : l.stackTraces = false) {M : EM} {x oa : Nat} {r : Int32 × Int32} {N : EM → Prop} (p0 p1 p2 : Int32) (hk : ∃ k, k ≤ 3 ∧ r.1 = nI k) (h : Ct l g sg_X10_zone [.inr (.inr (.inr (.inr (1, x)))), .inl p0, .inl p1, .inl p2] M (fun o M' => BX ((e_fo M M' x (x + 2232) ∧ ResC exA r o) ∧ N M'))) : CtH l g sg_L_zone [.inr (.inr (.inr (.inr (1, x)))), .inl p0, .inl p1, .inl p2, .inr (.inr (.inr (.inr (50, oa))))] M (fun o M' => BX (WP N r.1 r.2.toInt64 M x oa o M')) := by
  refine sem_ofH hl0 rfl (by decide +kernel) rfl ok_L_zone rfl (fun K hc hw => e_step rfl hc 80 [] ?_)
  refine Ct.mono h ?_
  rintro o M' ⟨⟨⟨hf, hr⟩, hN⟩⟩
  obtain ⟨r1, r2⟩ := r
  obtain ⟨k, k1, k2⟩ := hk
  dsimp only at k2 hr
  subst k2
  obtain rfl | rfl | rfl | rfl : k = 0 ∨ k = 1 ∨ k = 2 ∨ k = 3 := by omega
  · have hr' : o = .inl (some (.inl r2)) := Eq.mp (if_pos (show (nI 0 : Int32) = 0 from rfl)) hr
    clear hr
    subst hr'
    exact ⟨vp_in_iff.mpr (by decide), by decide, by decide, BX.mk (WP.y hf hN)⟩
  · have hr' : o = .inr (exA (nI 1)) := Eq.mp (if_neg (show ¬ (nI 1 : Int32) = 0 by decide)) hr
    clear hr
    subst hr'
    refine e_aftH_x (h := 15) (show hd_L_zone (exA (nI 1)) = some 15 by decide +kernel) (fun a => ?_)
    exact ⟨by decide, by decide, BX.mk (WP.n (c := nI 1) (show ¬ (nI 1 : Int32) = 0 by decide) hf hN)⟩
  · have hr' : o = .inr (exA (nI 2)) := Eq.mp (if_neg (show ¬ (nI 2 : Int32) = 0 by decide)) hr
    clear hr
    subst hr'
    refine e_aftH_x (h := 19) (show hd_L_zone (exA (nI 2)) = some 19 by decide +kernel) (fun a => ?_)
    exact ⟨by decide, by decide, BX.mk (WP.n (c := nI 2) (show ¬ (nI 2 : Int32) = 0 by decide) hf hN)⟩
  · have hr' : o = .inr (exA (nI 3)) := Eq.mp (if_neg (show ¬ (nI 3 : Int32) = 0 by decide)) hr
    clear hr
    subst hr'
    refine e_aftH_x (h := 23) (show hd_L_zone (exA (nI 3)) = some 23 by decide +kernel) (fun a => ?_)
    exact ⟨by decide, by decide, BX.mk (WP.n (c := nI 3) (show ¬ (nI 3 : Int32) = 0 by decide) hf hN)⟩
theorem cw_moment (hl0 : l.stackTraces = false) {M : EM} {x oa : Nat} {r : Int32 × Int32} {N : EM → Prop} (p0 p1 p2 p3 : Int32) (hk : ∃ k, k ≤ 2 ∧ r.1 = nI k) (h : Ct l g sg_X10_moment [.inr (.inr (.inr (.inr (1, x)))), .inl p0, .inl p1, .inl p2, .inl p3] M (fun o M' => BX ((e_fo M M' x (x + 2232) ∧ ResC exA r o) ∧ N M'))) : CtH l g sg_L_moment [.inr (.inr (.inr (.inr (1, x)))), .inl p0, .inl p1, .inl p2, .inl p3, .inr (.inr (.inr (.inr (50, oa))))] M (fun o M' => BX (WP N r.1 r.2.toInt64 M x oa o M')) := by
  refine sem_ofH hl0 rfl (by decide +kernel) rfl ok_L_moment rfl (fun K hc hw => e_step rfl hc 80 [] ?_)
  refine Ct.mono h ?_
  rintro o M' ⟨⟨⟨hf, hr⟩, hN⟩⟩
  obtain ⟨r1, r2⟩ := r
  obtain ⟨k, k1, k2⟩ := hk
  dsimp only at k2 hr
  subst k2
  obtain rfl | rfl | rfl : k = 0 ∨ k = 1 ∨ k = 2 := by omega
  · have hr' : o = .inl (some (.inl r2)) := Eq.mp (if_pos (show (nI 0 : Int32) = 0 from rfl)) hr
    clear hr
    subst hr'
    exact ⟨vp_in_iff.mpr (by decide), by decide, by decide, BX.mk (WP.y hf hN)⟩
  · have hr' : o = .inr (exA (nI 1)) := Eq.mp (if_neg (show ¬ (nI 1 : Int32) = 0 by decide)) hr
    clear hr
    subst hr'
    refine e_aftH_x (h := 17) (show hd_L_moment (exA (nI 1)) = some 17 by decide +kernel) (fun a => ?_)
    exact ⟨by decide, by decide, BX.mk (WP.n (c := nI 1) (show ¬ (nI 1 : Int32) = 0 by decide) hf hN)⟩
  · have hr' : o = .inr (exA (nI 2)) := Eq.mp (if_neg (show ¬ (nI 2 : Int32) = 0 by decide)) hr
    clear hr
    subst hr'
    refine e_aftH_x (h := 21) (show hd_L_moment (exA (nI 2)) = some 21 by decide +kernel) (fun a => ?_)
    exact ⟨by decide, by decide, BX.mk (WP.n (c := nI 2) (show ¬ (nI 2 : Int32) = 0 by decide) hf hN)⟩
theorem cw_events (hl0 : l.stackTraces = false) {M : EM} {x oa : Nat} {r : Int32 × Int32} {N : EM → Prop} (p0 : Int32) (hk : ∃ k, k ≤ 1 ∧ r.1 = nI k) (h : Ct l g sg_X10_events [.inr (.inr (.inr (.inr (1, x)))), .inl p0] M (fun o M' => BX ((e_fo M M' x (x + 2232) ∧ ResC exA r o) ∧ N M'))) : CtH l g sg_L_events [.inr (.inr (.inr (.inr (1, x)))), .inl p0, .inr (.inr (.inr (.inr (50, oa))))] M (fun o M' => BX (WP N r.1 r.2.toInt64 M x oa o M')) := by
  refine sem_ofH hl0 rfl (by decide +kernel) rfl ok_L_events rfl (fun K hc hw => e_step rfl hc 80 [] ?_)
  refine Ct.mono h ?_
  rintro o M' ⟨⟨⟨hf, hr⟩, hN⟩⟩
  obtain ⟨r1, r2⟩ := r
  obtain ⟨k, k1, k2⟩ := hk
  dsimp only at k2 hr
  subst k2
  obtain rfl | rfl : k = 0 ∨ k = 1 := by omega
  · have hr' : o = .inl (some (.inl r2)) := Eq.mp (if_pos (show (nI 0 : Int32) = 0 from rfl)) hr
    clear hr
    subst hr'
    exact ⟨vp_in_iff.mpr (by decide), by decide, by decide, BX.mk (WP.y hf hN)⟩
  · have hr' : o = .inr (exA (nI 1)) := Eq.mp (if_neg (show ¬ (nI 1 : Int32) = 0 by decide)) hr
    clear hr
    subst hr'
    refine e_aftH_x (h := 12) (show hd_L_events (exA (nI 1)) = some 12 by decide +kernel) (fun a => ?_)
    exact ⟨by decide, by decide, BX.mk (WP.n (c := nI 1) (show ¬ (nI 1 : Int32) = 0 by decide) hf hN)⟩
theorem cw_event (hl0 : l.stackTraces = false) {M : EM} {x oa : Nat} {r : Int32 × Int32} {N : EM → Prop} (p0 p1 p2 : Int32) (hk : ∃ k, k ≤ 3 ∧ r.1 = nI k) (h : Ct l g sg_X10_event [.inr (.inr (.inr (.inr (1, x)))), .inl p0, .inl p1, .inl p2] M (fun o M' => BX ((e_fo M M' x (x + 2232) ∧ ResC exA r o) ∧ N M'))) : CtH l g sg_L_event [.inr (.inr (.inr (.inr (1, x)))), .inl p0, .inl p1, .inl p2, .inr (.inr (.inr (.inr (50, oa))))] M (fun o M' => BX (WP N r.1 r.2.toInt64 M x oa o M')) := by
  refine sem_ofH hl0 rfl (by decide +kernel) rfl ok_L_event rfl (fun K hc hw => e_step rfl hc 80 [] ?_)
  refine Ct.mono h ?_
  rintro o M' ⟨⟨⟨hf, hr⟩, hN⟩⟩
  obtain ⟨r1, r2⟩ := r
  obtain ⟨k, k1, k2⟩ := hk
  dsimp only at k2 hr
  subst k2
  obtain rfl | rfl | rfl | rfl : k = 0 ∨ k = 1 ∨ k = 2 ∨ k = 3 := by omega
  · have hr' : o = .inl (some (.inl r2)) := Eq.mp (if_pos (show (nI 0 : Int32) = 0 from rfl)) hr
    clear hr
    subst hr'
    exact ⟨vp_in_iff.mpr (by decide), by decide, by decide, BX.mk (WP.y hf hN)⟩
  · have hr' : o = .inr (exA (nI 1)) := Eq.mp (if_neg (show ¬ (nI 1 : Int32) = 0 by decide)) hr
    clear hr
    subst hr'
    refine e_aftH_x (h := 15) (show hd_L_event (exA (nI 1)) = some 15 by decide +kernel) (fun a => ?_)
    exact ⟨by decide, by decide, BX.mk (WP.n (c := nI 1) (show ¬ (nI 1 : Int32) = 0 by decide) hf hN)⟩
  · have hr' : o = .inr (exA (nI 2)) := Eq.mp (if_neg (show ¬ (nI 2 : Int32) = 0 by decide)) hr
    clear hr
    subst hr'
    refine e_aftH_x (h := 19) (show hd_L_event (exA (nI 2)) = some 19 by decide +kernel) (fun a => ?_)
    exact ⟨by decide, by decide, BX.mk (WP.n (c := nI 2) (show ¬ (nI 2 : Int32) = 0 by decide) hf hN)⟩
  · have hr' : o = .inr (exA (nI 3)) := Eq.mp (if_neg (show ¬ (nI 3 : Int32) = 0 by decide)) hr
    clear hr
    subst hr'
    refine e_aftH_x (h := 23) (show hd_L_event (exA (nI 3)) = some 23 by decide +kernel) (fun a => ?_)
    exact ⟨by decide, by decide, BX.mk (WP.n (c := nI 3) (show ¬ (nI 3 : Int32) = 0 by decide) hf hN)⟩
theorem cw_date (hl0 : l.stackTraces = false) {M : EM} {x oa : Nat} {r : Int32 × Int32} {N : EM → Prop} (p0 p1 p2 p3 : Int32) (hk : ∃ k, k ≤ 3 ∧ r.1 = nI k) (h : Ct l g sg_X10_date [.inr (.inr (.inr (.inr (1, x)))), .inl p0, .inl p1, .inl p2, .inl p3] M (fun o M' => BX ((e_fo M M' x (x + 2232) ∧ ResC exA r o) ∧ N M'))) : CtH l g sg_L_date [.inr (.inr (.inr (.inr (1, x)))), .inl p0, .inl p1, .inl p2, .inl p3, .inr (.inr (.inr (.inr (50, oa))))] M (fun o M' => BX (WP N r.1 r.2.toInt64 M x oa o M')) := by
  refine sem_ofH hl0 rfl (by decide +kernel) rfl ok_L_date rfl (fun K hc hw => e_step rfl hc 80 [] ?_)
  refine Ct.mono h ?_
  rintro o M' ⟨⟨⟨hf, hr⟩, hN⟩⟩
  obtain ⟨r1, r2⟩ := r
  obtain ⟨k, k1, k2⟩ := hk
  dsimp only at k2 hr
  subst k2
  obtain rfl | rfl | rfl | rfl : k = 0 ∨ k = 1 ∨ k = 2 ∨ k = 3 := by omega
  · have hr' : o = .inl (some (.inl r2)) := Eq.mp (if_pos (show (nI 0 : Int32) = 0 from rfl)) hr
    clear hr
    subst hr'
    exact ⟨vp_in_iff.mpr (by decide), by decide, by decide, BX.mk (WP.y hf hN)⟩
  · have hr' : o = .inr (exA (nI 1)) := Eq.mp (if_neg (show ¬ (nI 1 : Int32) = 0 by decide)) hr
    clear hr
    subst hr'
    refine e_aftH_x (h := 17) (show hd_L_date (exA (nI 1)) = some 17 by decide +kernel) (fun a => ?_)
    exact ⟨by decide, by decide, BX.mk (WP.n (c := nI 1) (show ¬ (nI 1 : Int32) = 0 by decide) hf hN)⟩
  · have hr' : o = .inr (exA (nI 2)) := Eq.mp (if_neg (show ¬ (nI 2 : Int32) = 0 by decide)) hr
    clear hr
    subst hr'
    refine e_aftH_x (h := 21) (show hd_L_date (exA (nI 2)) = some 21 by decide +kernel) (fun a => ?_)
    exact ⟨by decide, by decide, BX.mk (WP.n (c := nI 2) (show ¬ (nI 2 : Int32) = 0 by decide) hf hN)⟩
  · have hr' : o = .inr (exA (nI 3)) := Eq.mp (if_neg (show ¬ (nI 3 : Int32) = 0 by decide)) hr
    clear hr
    subst hr'
    refine e_aftH_x (h := 25) (show hd_L_date (exA (nI 3)) = some 25 by decide +kernel) (fun a => ?_)
    exact ⟨by decide, by decide, BX.mk (WP.n (c := nI 3) (show ¬ (nI 3 : Int32) = 0 by decide) hf hN)⟩
theorem cw_answer (hl0 : l.stackTraces = false) {M : EM} {x oa : Nat} {r : Int32 × Int32} {N : EM → Prop} (p0 p1 p2 : Int32) (hk : ∃ k, k ≤ 2 ∧ r.1 = nI k) (h : Ct l g sg_X10_answer [.inr (.inr (.inr (.inr (1, x)))), .inl p0, .inl p1, .inl p2] M (fun o M' => BX ((e_fo M M' x (x + 2232) ∧ ResC exA r o) ∧ N M'))) : CtH l g sg_L_answer [.inr (.inr (.inr (.inr (1, x)))), .inl p0, .inl p1, .inl p2, .inr (.inr (.inr (.inr (50, oa))))] M (fun o M' => BX (WP N r.1 r.2.toInt64 M x oa o M')) := by
  refine sem_ofH hl0 rfl (by decide +kernel) rfl ok_L_answer rfl (fun K hc hw => e_step rfl hc 80 [] ?_)
  refine Ct.mono h ?_
  rintro o M' ⟨⟨⟨hf, hr⟩, hN⟩⟩
  obtain ⟨r1, r2⟩ := r
  obtain ⟨k, k1, k2⟩ := hk
  dsimp only at k2 hr
  subst k2
  obtain rfl | rfl | rfl : k = 0 ∨ k = 1 ∨ k = 2 := by omega
  · have hr' : o = .inl (some (.inl r2)) := Eq.mp (if_pos (show (nI 0 : Int32) = 0 from rfl)) hr
    clear hr
    subst hr'
    exact ⟨vp_in_iff.mpr (by decide), by decide, by decide, BX.mk (WP.y hf hN)⟩
  · have hr' : o = .inr (exA (nI 1)) := Eq.mp (if_neg (show ¬ (nI 1 : Int32) = 0 by decide)) hr
    clear hr
    subst hr'
    refine e_aftH_x (h := 15) (show hd_L_answer (exA (nI 1)) = some 15 by decide +kernel) (fun a => ?_)
    exact ⟨by decide, by decide, BX.mk (WP.n (c := nI 1) (show ¬ (nI 1 : Int32) = 0 by decide) hf hN)⟩
  · have hr' : o = .inr (exA (nI 2)) := Eq.mp (if_neg (show ¬ (nI 2 : Int32) = 0 by decide)) hr
    clear hr
    subst hr'
    refine e_aftH_x (h := 19) (show hd_L_answer (exA (nI 2)) = some 19 by decide +kernel) (fun a => ?_)
    exact ⟨by decide, by decide, BX.mk (WP.n (c := nI 2) (show ¬ (nI 2 : Int32) = 0 by decide) hf hN)⟩
theorem cw_agenda (hl0 : l.stackTraces = false) {M : EM} {x oa : Nat} {r : Int32 × Int32} {N : EM → Prop} (p0 p1 p2 : Int32) (hk : ∃ k, k ≤ 1 ∧ r.1 = nI k) (h : Ct l g sg_X10_agenda [.inr (.inr (.inr (.inr (1, x)))), .inl p0, .inl p1, .inl p2] M (fun o M' => BX ((e_fo M M' x (x + 2232) ∧ ResC exA r o) ∧ N M'))) : CtH l g sg_L_agenda [.inr (.inr (.inr (.inr (1, x)))), .inl p0, .inl p1, .inl p2, .inr (.inr (.inr (.inr (50, oa))))] M (fun o M' => BX (WP N r.1 r.2.toInt64 M x oa o M')) := by
  refine sem_ofH hl0 rfl (by decide +kernel) rfl ok_L_agenda rfl (fun K hc hw => e_step rfl hc 80 [] ?_)
  refine Ct.mono h ?_
  rintro o M' ⟨⟨⟨hf, hr⟩, hN⟩⟩
  obtain ⟨r1, r2⟩ := r
  obtain ⟨k, k1, k2⟩ := hk
  dsimp only at k2 hr
  subst k2
  obtain rfl | rfl : k = 0 ∨ k = 1 := by omega
  · have hr' : o = .inl (some (.inl r2)) := Eq.mp (if_pos (show (nI 0 : Int32) = 0 from rfl)) hr
    clear hr
    subst hr'
    exact ⟨vp_in_iff.mpr (by decide), by decide, by decide, BX.mk (WP.y hf hN)⟩
  · have hr' : o = .inr (exA (nI 1)) := Eq.mp (if_neg (show ¬ (nI 1 : Int32) = 0 by decide)) hr
    clear hr
    subst hr'
    refine e_aftH_x (h := 15) (show hd_L_agenda (exA (nI 1)) = some 15 by decide +kernel) (fun a => ?_)
    exact ⟨by decide, by decide, BX.mk (WP.n (c := nI 1) (show ¬ (nI 1 : Int32) = 0 by decide) hf hN)⟩
theorem cw_agendaAt (hl0 : l.stackTraces = false) {M : EM} {x oa : Nat} {r : Int32 × Int32} {N : EM → Prop} (p0 p1 p2 p3 : Int32) (hk : ∃ k, k ≤ 3 ∧ r.1 = nI k) (h : Ct l g sg_X10_agendaAt [.inr (.inr (.inr (.inr (1, x)))), .inl p0, .inl p1, .inl p2, .inl p3] M (fun o M' => BX ((e_fo M M' x (x + 2232) ∧ ResC exA r o) ∧ N M'))) : CtH l g sg_L_agendaAt [.inr (.inr (.inr (.inr (1, x)))), .inl p0, .inl p1, .inl p2, .inl p3, .inr (.inr (.inr (.inr (50, oa))))] M (fun o M' => BX (WP N r.1 r.2.toInt64 M x oa o M')) := by
  refine sem_ofH hl0 rfl (by decide +kernel) rfl ok_L_agendaAt rfl (fun K hc hw => e_step rfl hc 80 [] ?_)
  refine Ct.mono h ?_
  rintro o M' ⟨⟨⟨hf, hr⟩, hN⟩⟩
  obtain ⟨r1, r2⟩ := r
  obtain ⟨k, k1, k2⟩ := hk
  dsimp only at k2 hr
  subst k2
  obtain rfl | rfl | rfl | rfl : k = 0 ∨ k = 1 ∨ k = 2 ∨ k = 3 := by omega
  · have hr' : o = .inl (some (.inl r2)) := Eq.mp (if_pos (show (nI 0 : Int32) = 0 from rfl)) hr
    clear hr
    subst hr'
    exact ⟨vp_in_iff.mpr (by decide), by decide, by decide, BX.mk (WP.y hf hN)⟩
  · have hr' : o = .inr (exA (nI 1)) := Eq.mp (if_neg (show ¬ (nI 1 : Int32) = 0 by decide)) hr
    clear hr
    subst hr'
    refine e_aftH_x (h := 17) (show hd_L_agendaAt (exA (nI 1)) = some 17 by decide +kernel) (fun a => ?_)
    exact ⟨by decide, by decide, BX.mk (WP.n (c := nI 1) (show ¬ (nI 1 : Int32) = 0 by decide) hf hN)⟩
  · have hr' : o = .inr (exA (nI 2)) := Eq.mp (if_neg (show ¬ (nI 2 : Int32) = 0 by decide)) hr
    clear hr
    subst hr'
    refine e_aftH_x (h := 21) (show hd_L_agendaAt (exA (nI 2)) = some 21 by decide +kernel) (fun a => ?_)
    exact ⟨by decide, by decide, BX.mk (WP.n (c := nI 2) (show ¬ (nI 2 : Int32) = 0 by decide) hf hN)⟩
  · have hr' : o = .inr (exA (nI 3)) := Eq.mp (if_neg (show ¬ (nI 3 : Int32) = 0 by decide)) hr
    clear hr
    subst hr'
    refine e_aftH_x (h := 25) (show hd_L_agendaAt (exA (nI 3)) = some 25 by decide +kernel) (fun a => ?_)
    exact ⟨by decide, by decide, BX.mk (WP.n (c := nI 3) (show ¬ (nI 3 : Int32) = 0 by decide) hf hN)⟩
theorem cw_clashes (hl0 : l.stackTraces = false) {M : EM} {x oa : Nat} {r : Int32 × Int32} {N : EM → Prop} (p0 : Int32) (hk : ∃ k, k ≤ 1 ∧ r.1 = nI k) (h : Ct l g sg_X10_clashes [.inr (.inr (.inr (.inr (1, x)))), .inl p0] M (fun o M' => BX ((e_fo M M' x (x + 2232) ∧ ResC exA r o) ∧ N M'))) : CtH l g sg_L_clashes [.inr (.inr (.inr (.inr (1, x)))), .inl p0, .inr (.inr (.inr (.inr (50, oa))))] M (fun o M' => BX (WP N r.1 r.2.toInt64 M x oa o M')) := by
  refine sem_ofH hl0 rfl (by decide +kernel) rfl ok_L_clashes rfl (fun K hc hw => e_step rfl hc 80 [] ?_)
  refine Ct.mono h ?_
  rintro o M' ⟨⟨⟨hf, hr⟩, hN⟩⟩
  obtain ⟨r1, r2⟩ := r
  obtain ⟨k, k1, k2⟩ := hk
  dsimp only at k2 hr
  subst k2
  obtain rfl | rfl : k = 0 ∨ k = 1 := by omega
  · have hr' : o = .inl (some (.inl r2)) := Eq.mp (if_pos (show (nI 0 : Int32) = 0 from rfl)) hr
    clear hr
    subst hr'
    exact ⟨vp_in_iff.mpr (by decide), by decide, by decide, BX.mk (WP.y hf hN)⟩
  · have hr' : o = .inr (exA (nI 1)) := Eq.mp (if_neg (show ¬ (nI 1 : Int32) = 0 by decide)) hr
    clear hr
    subst hr'
    refine e_aftH_x (h := 12) (show hd_L_clashes (exA (nI 1)) = some 12 by decide +kernel) (fun a => ?_)
    exact ⟨by decide, by decide, BX.mk (WP.n (c := nI 1) (show ¬ (nI 1 : Int32) = 0 by decide) hf hN)⟩
theorem cw_busy (hl0 : l.stackTraces = false) {M : EM} {x oa : Nat} {r : Int32 × UInt32} {N : EM → Prop} (p0 p1 p2 : Int32) (hn : r.1 = 0 → vf_n64 (FP.f2d r.2)) (hk : ∃ k, k ≤ 1 ∧ r.1 = nI k) (h : Ct l g sg_X10_busy [.inr (.inr (.inr (.inr (1, x)))), .inl p0, .inl p1, .inl p2] M (fun o M' => BX ((e_fo M M' x (x + 2232) ∧ (if r.1 = 0 then o = .inl (some (.inr (.inr (.inl r.2)))) else o = .inr (exA r.1))) ∧ N M'))) : CtH l g sg_L_busy [.inr (.inr (.inr (.inr (1, x)))), .inl p0, .inl p1, .inl p2, .inr (.inr (.inr (.inr (51, oa))))] M (fun o M' => BX (WP N r.1 (FP.f2d r.2).toInt64 M x oa o M')) := by
  refine sem_ofH hl0 rfl (by decide +kernel) rfl ok_L_busy rfl (fun K hc hw => e_step rfl hc 80 [] ?_)
  refine Ct.mono h ?_
  rintro o M' ⟨⟨⟨hf, hr⟩, hN⟩⟩
  obtain ⟨r1, r2⟩ := r
  obtain ⟨k, k1, k2⟩ := hk
  dsimp only at k2 hr
  subst k2
  obtain rfl | rfl : k = 0 ∨ k = 1 := by omega
  · have hr' : o = .inl (some (.inr (.inr (.inl r2)))) := Eq.mp (if_pos (show (nI 0 : Int32) = 0 from rfl)) hr
    clear hr
    subst hr'
    exact ⟨hn rfl, vp_in_iff.mpr (by decide), by decide, by decide, BX.mk (WP.y hf hN)⟩
  · have hr' : o = .inr (exA (nI 1)) := Eq.mp (if_neg (show ¬ (nI 1 : Int32) = 0 by decide)) hr
    clear hr
    subst hr'
    refine e_aftH_x (h := 15) (show hd_L_busy (exA (nI 1)) = some 15 by decide +kernel) (fun a => ?_)
    exact ⟨by decide, by decide, BX.mk (WP.n (c := nI 1) (show ¬ (nI 1 : Int32) = 0 by decide) hf hN)⟩
theorem cw_busyBits (hl0 : l.stackTraces = false) {M : EM} {x oa : Nat} {r : Int32 × Int32} {N : EM → Prop} (p0 p1 p2 : Int32) (hk : ∃ k, k ≤ 1 ∧ r.1 = nI k) (h : Ct l g sg_X10_busyBits [.inr (.inr (.inr (.inr (1, x)))), .inl p0, .inl p1, .inl p2] M (fun o M' => BX ((e_fo M M' x (x + 2232) ∧ ResC exA r o) ∧ N M'))) : CtH l g sg_L_busyBits [.inr (.inr (.inr (.inr (1, x)))), .inl p0, .inl p1, .inl p2, .inr (.inr (.inr (.inr (50, oa))))] M (fun o M' => BX (WP N r.1 r.2.toInt64 M x oa o M')) := by
  refine sem_ofH hl0 rfl (by decide +kernel) rfl ok_L_busyBits rfl (fun K hc hw => e_step rfl hc 80 [] ?_)
  refine Ct.mono h ?_
  rintro o M' ⟨⟨⟨hf, hr⟩, hN⟩⟩
  obtain ⟨r1, r2⟩ := r
  obtain ⟨k, k1, k2⟩ := hk
  dsimp only at k2 hr
  subst k2
  obtain rfl | rfl : k = 0 ∨ k = 1 := by omega
  · have hr' : o = .inl (some (.inl r2)) := Eq.mp (if_pos (show (nI 0 : Int32) = 0 from rfl)) hr
    clear hr
    subst hr'
    exact ⟨vp_in_iff.mpr (by decide), by decide, by decide, BX.mk (WP.y hf hN)⟩
  · have hr' : o = .inr (exA (nI 1)) := Eq.mp (if_neg (show ¬ (nI 1 : Int32) = 0 by decide)) hr
    clear hr
    subst hr'
    refine e_aftH_x (h := 15) (show hd_L_busyBits (exA (nI 1)) = some 15 by decide +kernel) (fun a => ?_)
    exact ⟨by decide, by decide, BX.mk (WP.n (c := nI 1) (show ¬ (nI 1 : Int32) = 0 by decide) hf hN)⟩
theorem cw_isSame (hl0 : l.stackTraces = false) {M : EM} {x oa : Nat} {r : Int32 × Int32} {N : EM → Prop} (p0 : Int32) (hk : ∃ k, k ≤ 1 ∧ r.1 = nI k) (h : Ct l g sg_X10_isSame [.inr (.inr (.inr (.inr (1, x)))), .inl p0] M (fun o M' => BX ((e_fo M M' x (x + 2232) ∧ ResC exA r o) ∧ N M'))) : CtH l g sg_L_isSame [.inr (.inr (.inr (.inr (1, x)))), .inl p0, .inr (.inr (.inr (.inr (50, oa))))] M (fun o M' => BX (WP N r.1 (if r.2 = 0 then 0 else 1) M x oa o M')) := by
  refine sem_ofH hl0 rfl (by decide +kernel) rfl ok_L_isSame rfl (fun K hc hw => e_step rfl hc 80 [] ?_)
  refine Ct.mono h ?_
  rintro o M' ⟨⟨⟨hf, hr⟩, hN⟩⟩
  obtain ⟨r1, r2⟩ := r
  obtain ⟨k, k1, k2⟩ := hk
  dsimp only at k2 hr
  subst k2
  obtain rfl | rfl : k = 0 ∨ k = 1 := by omega
  · have hr' : o = .inl (some (.inl r2)) := Eq.mp (if_pos (show (nI 0 : Int32) = 0 from rfl)) hr
    clear hr
    subst hr'
    refine ⟨fun h0 => ⟨vp_in_iff.mpr (by decide), by decide, by decide, BX.mk ?_⟩, fun h0 => ⟨vp_in_iff.mpr (by decide), by decide, by decide, BX.mk ?_⟩⟩
    · have h0' : r2 = 0 := h0
      have := WP.y (v := if r2 = 0 then 0 else 1) (oa := oa) hf hN
      rw [if_pos h0'] at this ⊢
      exact this
    · have h0' : ¬ r2 = 0 := h0
      have := WP.y (v := if r2 = 0 then 0 else 1) (oa := oa) hf hN
      rw [if_neg h0'] at this ⊢
      exact this
  · have hr' : o = .inr (exA (nI 1)) := Eq.mp (if_neg (show ¬ (nI 1 : Int32) = 0 by decide)) hr
    clear hr
    subst hr'
    refine e_aftH_x (h := 19) (show hd_L_isSame (exA (nI 1)) = some 19 by decide +kernel) (fun a => ?_)
    exact ⟨by decide, by decide, BX.mk (WP.n (c := nI 1) (show ¬ (nI 1 : Int32) = 0 by decide) hf hN)⟩
theorem cw_side (hl0 : l.stackTraces = false) {M : EM} {x oa : Nat} {r : Int32 × Int32} {N : EM → Prop} (p0 p1 : Int32) (hk : ∃ k, k ≤ 1 ∧ r.1 = nI k) (h : Ct l g sg_X10_side [.inr (.inr (.inr (.inr (1, x)))), .inl p0, .inl p1] M (fun o M' => BX ((e_fo M M' x (x + 2232) ∧ ResC exA r o) ∧ N M'))) : CtH l g sg_L_side [.inr (.inr (.inr (.inr (1, x)))), .inl p0, .inl p1, .inr (.inr (.inr (.inr (50, oa))))] M (fun o M' => BX (WP N r.1 r.2.toInt64 M x oa o M')) := by
  refine sem_ofH hl0 rfl (by decide +kernel) rfl ok_L_side rfl (fun K hc hw => e_step rfl hc 80 [] ?_)
  refine Ct.mono h ?_
  rintro o M' ⟨⟨⟨hf, hr⟩, hN⟩⟩
  obtain ⟨r1, r2⟩ := r
  obtain ⟨k, k1, k2⟩ := hk
  dsimp only at k2 hr
  subst k2
  obtain rfl | rfl : k = 0 ∨ k = 1 := by omega
  · have hr' : o = .inl (some (.inl r2)) := Eq.mp (if_pos (show (nI 0 : Int32) = 0 from rfl)) hr
    clear hr
    subst hr'
    exact ⟨vp_in_iff.mpr (by decide), by decide, by decide, BX.mk (WP.y hf hN)⟩
  · have hr' : o = .inr (exA (nI 1)) := Eq.mp (if_neg (show ¬ (nI 1 : Int32) = 0 by decide)) hr
    clear hr
    subst hr'
    refine e_aftH_x (h := 13) (show hd_L_side (exA (nI 1)) = some 13 by decide +kernel) (fun a => ?_)
    exact ⟨by decide, by decide, BX.mk (WP.n (c := nI 1) (show ¬ (nI 1 : Int32) = 0 by decide) hf hN)⟩
theorem cw_account (hl0 : l.stackTraces = false) {M : EM} {x oa : Nat} {r : Int32 × Int32} {N : EM → Prop} (p0 p1 : Int32) (hk : ∃ k, k ≤ 1 ∧ r.1 = nI k) (h : Ct l g sg_X10_account [.inr (.inr (.inr (.inr (1, x)))), .inl p0, .inl p1] M (fun o M' => BX ((e_fo M M' x (x + 2232) ∧ ResC exA r o) ∧ N M'))) : CtH l g sg_L_account [.inr (.inr (.inr (.inr (1, x)))), .inl p0, .inl p1, .inr (.inr (.inr (.inr (50, oa))))] M (fun o M' => BX (WP N r.1 r.2.toInt64 M x oa o M')) := by
  refine sem_ofH hl0 rfl (by decide +kernel) rfl ok_L_account rfl (fun K hc hw => e_step rfl hc 80 [] ?_)
  refine Ct.mono h ?_
  rintro o M' ⟨⟨⟨hf, hr⟩, hN⟩⟩
  obtain ⟨r1, r2⟩ := r
  obtain ⟨k, k1, k2⟩ := hk
  dsimp only at k2 hr
  subst k2
  obtain rfl | rfl : k = 0 ∨ k = 1 := by omega
  · have hr' : o = .inl (some (.inl r2)) := Eq.mp (if_pos (show (nI 0 : Int32) = 0 from rfl)) hr
    clear hr
    subst hr'
    exact ⟨vp_in_iff.mpr (by decide), by decide, by decide, BX.mk (WP.y hf hN)⟩
  · have hr' : o = .inr (exA (nI 1)) := Eq.mp (if_neg (show ¬ (nI 1 : Int32) = 0 by decide)) hr
    clear hr
    subst hr'
    refine e_aftH_x (h := 13) (show hd_L_account (exA (nI 1)) = some 13 by decide +kernel) (fun a => ?_)
    exact ⟨by decide, by decide, BX.mk (WP.n (c := nI 1) (show ¬ (nI 1 : Int32) = 0 by decide) hf hN)⟩
theorem cw_create (hl0 : l.stackTraces = false) {M : EM} {x oa : Nat} {r : Int32 × Int32} {N : EM → Prop} (p0 p1 p2 p3 p4 p5 : Int32) (hk : ∃ k, k ≤ 3 ∧ r.1 = nI k) (h : Ct l g sg_X10_create [.inr (.inr (.inr (.inr (1, x)))), .inl p0, .inl p1, .inl p2, .inl p3, .inl p4, .inl p5] M (fun o M' => BX ((e_fo M M' x (x + 2232) ∧ ResC exC r o) ∧ N M'))) : CtH l g sg_L_create [.inr (.inr (.inr (.inr (1, x)))), .inl p0, .inl p1, .inl p2, .inl p3, .inl p4, .inl p5, .inr (.inr (.inr (.inr (50, oa))))] M (fun o M' => BX (WP N r.1 r.2.toInt64 M x oa o M')) := by
  refine sem_ofH hl0 rfl (by decide +kernel) rfl ok_L_create rfl (fun K hc hw => e_step rfl hc 80 [] ?_)
  refine Ct.mono h ?_
  rintro o M' ⟨⟨⟨hf, hr⟩, hN⟩⟩
  obtain ⟨r1, r2⟩ := r
  obtain ⟨k, k1, k2⟩ := hk
  dsimp only at k2 hr
  subst k2
  obtain rfl | rfl | rfl | rfl : k = 0 ∨ k = 1 ∨ k = 2 ∨ k = 3 := by omega
  · have hr' : o = .inl (some (.inl r2)) := Eq.mp (if_pos (show (nI 0 : Int32) = 0 from rfl)) hr
    clear hr
    subst hr'
    exact ⟨vp_in_iff.mpr (by decide), by decide, by decide, BX.mk (WP.y hf hN)⟩
  · have hr' : o = .inr (exC (nI 1)) := Eq.mp (if_neg (show ¬ (nI 1 : Int32) = 0 by decide)) hr
    clear hr
    subst hr'
    refine e_aftH_x (h := 21) (show hd_L_create (exC (nI 1)) = some 21 by decide +kernel) (fun a => ?_)
    exact ⟨by decide, by decide, BX.mk (WP.n (c := nI 1) (show ¬ (nI 1 : Int32) = 0 by decide) hf hN)⟩
  · have hr' : o = .inr (exC (nI 2)) := Eq.mp (if_neg (show ¬ (nI 2 : Int32) = 0 by decide)) hr
    clear hr
    subst hr'
    refine e_aftH_x (h := 25) (show hd_L_create (exC (nI 2)) = some 25 by decide +kernel) (fun a => ?_)
    exact ⟨by decide, by decide, BX.mk (WP.n (c := nI 2) (show ¬ (nI 2 : Int32) = 0 by decide) hf hN)⟩
  · have hr' : o = .inr (exC (nI 3)) := Eq.mp (if_neg (show ¬ (nI 3 : Int32) = 0 by decide)) hr
    clear hr
    subst hr'
    refine e_aftH_x (h := 29) (show hd_L_create (exC (nI 3)) = some 29 by decide +kernel) (fun a => ?_)
    exact ⟨by decide, by decide, BX.mk (WP.n (c := nI 3) (show ¬ (nI 3 : Int32) = 0 by decide) hf hN)⟩
theorem cw_repeat (hl0 : l.stackTraces = false) {M : EM} {x oa : Nat} {r : Int32 × Int32} {N : EM → Prop} (p0 p1 p2 p3 p4 p5 : Int32) (hk : ∃ k, k ≤ 2 ∧ r.1 = nI k) (h : Ct l g sg_X10_repeat [.inr (.inr (.inr (.inr (1, x)))), .inl p0, .inl p1, .inl p2, .inl p3, .inl p4, .inl p5] M (fun o M' => BX ((e_fo M M' x (x + 2232) ∧ ResC exA r o) ∧ N M'))) : CtH l g sg_L_repeat [.inr (.inr (.inr (.inr (1, x)))), .inl p0, .inl p1, .inl p2, .inl p3, .inl p4, .inl p5, .inr (.inr (.inr (.inr (50, oa))))] M (fun o M' => BX (WP N r.1 r.2.toInt64 M x oa o M')) := by
  refine sem_ofH hl0 rfl (by decide +kernel) rfl ok_L_repeat rfl (fun K hc hw => e_step rfl hc 80 [] ?_)
  refine Ct.mono h ?_
  rintro o M' ⟨⟨⟨hf, hr⟩, hN⟩⟩
  obtain ⟨r1, r2⟩ := r
  obtain ⟨k, k1, k2⟩ := hk
  dsimp only at k2 hr
  subst k2
  obtain rfl | rfl | rfl : k = 0 ∨ k = 1 ∨ k = 2 := by omega
  · have hr' : o = .inl (some (.inl r2)) := Eq.mp (if_pos (show (nI 0 : Int32) = 0 from rfl)) hr
    clear hr
    subst hr'
    exact ⟨vp_in_iff.mpr (by decide), by decide, by decide, BX.mk (WP.y hf hN)⟩
  · have hr' : o = .inr (exA (nI 1)) := Eq.mp (if_neg (show ¬ (nI 1 : Int32) = 0 by decide)) hr
    clear hr
    subst hr'
    refine e_aftH_x (h := 21) (show hd_L_repeat (exA (nI 1)) = some 21 by decide +kernel) (fun a => ?_)
    exact ⟨by decide, by decide, BX.mk (WP.n (c := nI 1) (show ¬ (nI 1 : Int32) = 0 by decide) hf hN)⟩
  · have hr' : o = .inr (exA (nI 2)) := Eq.mp (if_neg (show ¬ (nI 2 : Int32) = 0 by decide)) hr
    clear hr
    subst hr'
    refine e_aftH_x (h := 25) (show hd_L_repeat (exA (nI 2)) = some 25 by decide +kernel) (fun a => ?_)
    exact ⟨by decide, by decide, BX.mk (WP.n (c := nI 2) (show ¬ (nI 2 : Int32) = 0 by decide) hf hN)⟩
theorem cw_cancel (hl0 : l.stackTraces = false) {M : EM} {x oa : Nat} {r : Int32 × Int32} {N : EM → Prop} (p0 p1 p2 : Int32) (hk : ∃ k, k ≤ 3 ∧ r.1 = nI k) (h : Ct l g sg_X10_cancel [.inr (.inr (.inr (.inr (1, x)))), .inl p0, .inl p1, .inl p2] M (fun o M' => BX ((e_fo M M' x (x + 2232) ∧ ResC exA r o) ∧ N M'))) : CtH l g sg_L_cancel [.inr (.inr (.inr (.inr (1, x)))), .inl p0, .inl p1, .inl p2, .inr (.inr (.inr (.inr (50, oa))))] M (fun o M' => BX (WP N r.1 r.2.toInt64 M x oa o M')) := by
  refine sem_ofH hl0 rfl (by decide +kernel) rfl ok_L_cancel rfl (fun K hc hw => e_step rfl hc 80 [] ?_)
  refine Ct.mono h ?_
  rintro o M' ⟨⟨⟨hf, hr⟩, hN⟩⟩
  obtain ⟨r1, r2⟩ := r
  obtain ⟨k, k1, k2⟩ := hk
  dsimp only at k2 hr
  subst k2
  obtain rfl | rfl | rfl | rfl : k = 0 ∨ k = 1 ∨ k = 2 ∨ k = 3 := by omega
  · have hr' : o = .inl (some (.inl r2)) := Eq.mp (if_pos (show (nI 0 : Int32) = 0 from rfl)) hr
    clear hr
    subst hr'
    exact ⟨vp_in_iff.mpr (by decide), by decide, by decide, BX.mk (WP.y hf hN)⟩
  · have hr' : o = .inr (exA (nI 1)) := Eq.mp (if_neg (show ¬ (nI 1 : Int32) = 0 by decide)) hr
    clear hr
    subst hr'
    refine e_aftH_x (h := 15) (show hd_L_cancel (exA (nI 1)) = some 15 by decide +kernel) (fun a => ?_)
    exact ⟨by decide, by decide, BX.mk (WP.n (c := nI 1) (show ¬ (nI 1 : Int32) = 0 by decide) hf hN)⟩
  · have hr' : o = .inr (exA (nI 2)) := Eq.mp (if_neg (show ¬ (nI 2 : Int32) = 0 by decide)) hr
    clear hr
    subst hr'
    refine e_aftH_x (h := 19) (show hd_L_cancel (exA (nI 2)) = some 19 by decide +kernel) (fun a => ?_)
    exact ⟨by decide, by decide, BX.mk (WP.n (c := nI 2) (show ¬ (nI 2 : Int32) = 0 by decide) hf hN)⟩
  · have hr' : o = .inr (exA (nI 3)) := Eq.mp (if_neg (show ¬ (nI 3 : Int32) = 0 by decide)) hr
    clear hr
    subst hr'
    refine e_aftH_x (h := 23) (show hd_L_cancel (exA (nI 3)) = some 23 by decide +kernel) (fun a => ?_)
    exact ⟨by decide, by decide, BX.mk (WP.n (c := nI 3) (show ¬ (nI 3 : Int32) = 0 by decide) hf hN)⟩
theorem cw_move (hl0 : l.stackTraces = false) {M : EM} {x oa : Nat} {r : Int32 × Int32} {N : EM → Prop} (p0 p1 p2 p3 p4 : Int32) (hk : ∃ k, k ≤ 3 ∧ r.1 = nI k) (h : Ct l g sg_X10_move [.inr (.inr (.inr (.inr (1, x)))), .inl p0, .inl p1, .inl p2, .inl p3, .inl p4] M (fun o M' => BX ((e_fo M M' x (x + 2232) ∧ ResC exA r o) ∧ N M'))) : CtH l g sg_L_move [.inr (.inr (.inr (.inr (1, x)))), .inl p0, .inl p1, .inl p2, .inl p3, .inl p4, .inr (.inr (.inr (.inr (50, oa))))] M (fun o M' => BX (WP N r.1 r.2.toInt64 M x oa o M')) := by
  refine sem_ofH hl0 rfl (by decide +kernel) rfl ok_L_move rfl (fun K hc hw => e_step rfl hc 80 [] ?_)
  refine Ct.mono h ?_
  rintro o M' ⟨⟨⟨hf, hr⟩, hN⟩⟩
  obtain ⟨r1, r2⟩ := r
  obtain ⟨k, k1, k2⟩ := hk
  dsimp only at k2 hr
  subst k2
  obtain rfl | rfl | rfl | rfl : k = 0 ∨ k = 1 ∨ k = 2 ∨ k = 3 := by omega
  · have hr' : o = .inl (some (.inl r2)) := Eq.mp (if_pos (show (nI 0 : Int32) = 0 from rfl)) hr
    clear hr
    subst hr'
    exact ⟨vp_in_iff.mpr (by decide), by decide, by decide, BX.mk (WP.y hf hN)⟩
  · have hr' : o = .inr (exA (nI 1)) := Eq.mp (if_neg (show ¬ (nI 1 : Int32) = 0 by decide)) hr
    clear hr
    subst hr'
    refine e_aftH_x (h := 19) (show hd_L_move (exA (nI 1)) = some 19 by decide +kernel) (fun a => ?_)
    exact ⟨by decide, by decide, BX.mk (WP.n (c := nI 1) (show ¬ (nI 1 : Int32) = 0 by decide) hf hN)⟩
  · have hr' : o = .inr (exA (nI 2)) := Eq.mp (if_neg (show ¬ (nI 2 : Int32) = 0 by decide)) hr
    clear hr
    subst hr'
    refine e_aftH_x (h := 23) (show hd_L_move (exA (nI 2)) = some 23 by decide +kernel) (fun a => ?_)
    exact ⟨by decide, by decide, BX.mk (WP.n (c := nI 2) (show ¬ (nI 2 : Int32) = 0 by decide) hf hN)⟩
  · have hr' : o = .inr (exA (nI 3)) := Eq.mp (if_neg (show ¬ (nI 3 : Int32) = 0 by decide)) hr
    clear hr
    subst hr'
    refine e_aftH_x (h := 27) (show hd_L_move (exA (nI 3)) = some 27 by decide +kernel) (fun a => ?_)
    exact ⟨by decide, by decide, BX.mk (WP.n (c := nI 3) (show ¬ (nI 3 : Int32) = 0 by decide) hf hN)⟩
theorem cw_reply (hl0 : l.stackTraces = false) {M : EM} {x oa : Nat} {r : Int32 × Int32} {N : EM → Prop} (p0 p1 p2 p3 : Int32) (hk : ∃ k, k ≤ 3 ∧ r.1 = nI k) (h : Ct l g sg_X10_reply [.inr (.inr (.inr (.inr (1, x)))), .inl p0, .inl p1, .inl p2, .inl p3] M (fun o M' => BX ((e_fo M M' x (x + 2232) ∧ ResC exA r o) ∧ N M'))) : CtH l g sg_L_reply [.inr (.inr (.inr (.inr (1, x)))), .inl p0, .inl p1, .inl p2, .inl p3, .inr (.inr (.inr (.inr (50, oa))))] M (fun o M' => BX (WP N r.1 r.2.toInt64 M x oa o M')) := by
  refine sem_ofH hl0 rfl (by decide +kernel) rfl ok_L_reply rfl (fun K hc hw => e_step rfl hc 80 [] ?_)
  refine Ct.mono h ?_
  rintro o M' ⟨⟨⟨hf, hr⟩, hN⟩⟩
  obtain ⟨r1, r2⟩ := r
  obtain ⟨k, k1, k2⟩ := hk
  dsimp only at k2 hr
  subst k2
  obtain rfl | rfl | rfl | rfl : k = 0 ∨ k = 1 ∨ k = 2 ∨ k = 3 := by omega
  · have hr' : o = .inl (some (.inl r2)) := Eq.mp (if_pos (show (nI 0 : Int32) = 0 from rfl)) hr
    clear hr
    subst hr'
    exact ⟨vp_in_iff.mpr (by decide), by decide, by decide, BX.mk (WP.y hf hN)⟩
  · have hr' : o = .inr (exA (nI 1)) := Eq.mp (if_neg (show ¬ (nI 1 : Int32) = 0 by decide)) hr
    clear hr
    subst hr'
    refine e_aftH_x (h := 17) (show hd_L_reply (exA (nI 1)) = some 17 by decide +kernel) (fun a => ?_)
    exact ⟨by decide, by decide, BX.mk (WP.n (c := nI 1) (show ¬ (nI 1 : Int32) = 0 by decide) hf hN)⟩
  · have hr' : o = .inr (exA (nI 2)) := Eq.mp (if_neg (show ¬ (nI 2 : Int32) = 0 by decide)) hr
    clear hr
    subst hr'
    refine e_aftH_x (h := 21) (show hd_L_reply (exA (nI 2)) = some 21 by decide +kernel) (fun a => ?_)
    exact ⟨by decide, by decide, BX.mk (WP.n (c := nI 2) (show ¬ (nI 2 : Int32) = 0 by decide) hf hN)⟩
  · have hr' : o = .inr (exA (nI 3)) := Eq.mp (if_neg (show ¬ (nI 3 : Int32) = 0 by decide)) hr
    clear hr
    subst hr'
    refine e_aftH_x (h := 25) (show hd_L_reply (exA (nI 3)) = some 25 by decide +kernel) (fun a => ?_)
    exact ⟨by decide, by decide, BX.mk (WP.n (c := nI 3) (show ¬ (nI 3 : Int32) = 0 by decide) hf hN)⟩
theorem cw_remove (hl0 : l.stackTraces = false) {M : EM} {x oa : Nat} {r : Int32 × Int32} {N : EM → Prop} (p0 p1 : Int32) (hk : ∃ k, k ≤ 2 ∧ r.1 = nI k) (h : Ct l g sg_X10_remove [.inr (.inr (.inr (.inr (1, x)))), .inl p0, .inl p1] M (fun o M' => BX ((e_fo M M' x (x + 2232) ∧ ResC exA r o) ∧ N M'))) : CtH l g sg_L_remove [.inr (.inr (.inr (.inr (1, x)))), .inl p0, .inl p1, .inr (.inr (.inr (.inr (50, oa))))] M (fun o M' => BX (WP N r.1 r.2.toInt64 M x oa o M')) := by
  refine sem_ofH hl0 rfl (by decide +kernel) rfl ok_L_remove rfl (fun K hc hw => e_step rfl hc 80 [] ?_)
  refine Ct.mono h ?_
  rintro o M' ⟨⟨⟨hf, hr⟩, hN⟩⟩
  obtain ⟨r1, r2⟩ := r
  obtain ⟨k, k1, k2⟩ := hk
  dsimp only at k2 hr
  subst k2
  obtain rfl | rfl | rfl : k = 0 ∨ k = 1 ∨ k = 2 := by omega
  · have hr' : o = .inl (some (.inl r2)) := Eq.mp (if_pos (show (nI 0 : Int32) = 0 from rfl)) hr
    clear hr
    subst hr'
    exact ⟨vp_in_iff.mpr (by decide), by decide, by decide, BX.mk (WP.y hf hN)⟩
  · have hr' : o = .inr (exA (nI 1)) := Eq.mp (if_neg (show ¬ (nI 1 : Int32) = 0 by decide)) hr
    clear hr
    subst hr'
    refine e_aftH_x (h := 13) (show hd_L_remove (exA (nI 1)) = some 13 by decide +kernel) (fun a => ?_)
    exact ⟨by decide, by decide, BX.mk (WP.n (c := nI 1) (show ¬ (nI 1 : Int32) = 0 by decide) hf hN)⟩
  · have hr' : o = .inr (exA (nI 2)) := Eq.mp (if_neg (show ¬ (nI 2 : Int32) = 0 by decide)) hr
    clear hr
    subst hr'
    refine e_aftH_x (h := 17) (show hd_L_remove (exA (nI 2)) = some 17 by decide +kernel) (fun a => ?_)
    exact ⟨by decide, by decide, BX.mk (WP.n (c := nI 2) (show ¬ (nI 2 : Int32) = 0 by decide) hf hN)⟩
theorem cw_setZone (hl0 : l.stackTraces = false) {M : EM} {x oa : Nat} {r : Int32 × Int32} {N : EM → Prop} (p0 p1 p2 p3 : Int32) (hk : ∃ k, k ≤ 2 ∧ r.1 = nI k) (h : Ct l g sg_X10_setZone [.inr (.inr (.inr (.inr (1, x)))), .inl p0, .inl p1, .inl p2, .inl p3] M (fun o M' => BX ((e_fo M M' x (x + 2232) ∧ ResC exZ r o) ∧ N M'))) : CtH l g sg_L_setZone [.inr (.inr (.inr (.inr (1, x)))), .inl p0, .inl p1, .inl p2, .inl p3, .inr (.inr (.inr (.inr (50, oa))))] M (fun o M' => BX (WP N r.1 r.2.toInt64 M x oa o M')) := by
  refine sem_ofH hl0 rfl (by decide +kernel) rfl ok_L_setZone rfl (fun K hc hw => e_step rfl hc 80 [] ?_)
  refine Ct.mono h ?_
  rintro o M' ⟨⟨⟨hf, hr⟩, hN⟩⟩
  obtain ⟨r1, r2⟩ := r
  obtain ⟨k, k1, k2⟩ := hk
  dsimp only at k2 hr
  subst k2
  obtain rfl | rfl | rfl : k = 0 ∨ k = 1 ∨ k = 2 := by omega
  · have hr' : o = .inl (some (.inl r2)) := Eq.mp (if_pos (show (nI 0 : Int32) = 0 from rfl)) hr
    clear hr
    subst hr'
    exact ⟨vp_in_iff.mpr (by decide), by decide, by decide, BX.mk (WP.y hf hN)⟩
  · have hr' : o = .inr (exZ (nI 1)) := Eq.mp (if_neg (show ¬ (nI 1 : Int32) = 0 by decide)) hr
    clear hr
    subst hr'
    refine e_aftH_x (h := 17) (show hd_L_setZone (exZ (nI 1)) = some 17 by decide +kernel) (fun a => ?_)
    exact ⟨by decide, by decide, BX.mk (WP.n (c := nI 1) (show ¬ (nI 1 : Int32) = 0 by decide) hf hN)⟩
  · have hr' : o = .inr (exZ (nI 2)) := Eq.mp (if_neg (show ¬ (nI 2 : Int32) = 0 by decide)) hr
    clear hr
    subst hr'
    refine e_aftH_x (h := 21) (show hd_L_setZone (exZ (nI 2)) = some 21 by decide +kernel) (fun a => ?_)
    exact ⟨by decide, by decide, BX.mk (WP.n (c := nI 2) (show ¬ (nI 2 : Int32) = 0 by decide) hf hN)⟩
theorem cw_push (hl0 : l.stackTraces = false) {M : EM} {x oa : Nat} {r : Int32 × Int32} {N : EM → Prop} (p0 : Int32) (hk : ∃ k, k ≤ 1 ∧ r.1 = nI k) (h : Ct l g sg_X10_push [.inr (.inr (.inr (.inr (1, x)))), .inl p0] M (fun o M' => BX ((e_fo M M' x (x + 2232) ∧ ResC exA r o) ∧ N M'))) : CtH l g sg_L_push [.inr (.inr (.inr (.inr (1, x)))), .inl p0, .inr (.inr (.inr (.inr (50, oa))))] M (fun o M' => BX (WP N r.1 r.2.toInt64 M x oa o M')) := by
  refine sem_ofH hl0 rfl (by decide +kernel) rfl ok_L_push rfl (fun K hc hw => e_step rfl hc 80 [] ?_)
  refine Ct.mono h ?_
  rintro o M' ⟨⟨⟨hf, hr⟩, hN⟩⟩
  obtain ⟨r1, r2⟩ := r
  obtain ⟨k, k1, k2⟩ := hk
  dsimp only at k2 hr
  subst k2
  obtain rfl | rfl : k = 0 ∨ k = 1 := by omega
  · have hr' : o = .inl (some (.inl r2)) := Eq.mp (if_pos (show (nI 0 : Int32) = 0 from rfl)) hr
    clear hr
    subst hr'
    exact ⟨vp_in_iff.mpr (by decide), by decide, by decide, BX.mk (WP.y hf hN)⟩
  · have hr' : o = .inr (exA (nI 1)) := Eq.mp (if_neg (show ¬ (nI 1 : Int32) = 0 by decide)) hr
    clear hr
    subst hr'
    refine e_aftH_x (h := 12) (show hd_L_push (exA (nI 1)) = some 12 by decide +kernel) (fun a => ?_)
    exact ⟨by decide, by decide, BX.mk (WP.n (c := nI 1) (show ¬ (nI 1 : Int32) = 0 by decide) hf hN)⟩
theorem cw_pull (hl0 : l.stackTraces = false) {M : EM} {x oa : Nat} {r : Int32 × Int32} {N : EM → Prop} (p0 : Int32) (hk : ∃ k, k ≤ 1 ∧ r.1 = nI k) (h : Ct l g sg_X10_pull [.inr (.inr (.inr (.inr (1, x)))), .inl p0] M (fun o M' => BX ((e_fo M M' x (x + 2232) ∧ ResC exA r o) ∧ N M'))) : CtH l g sg_L_pull [.inr (.inr (.inr (.inr (1, x)))), .inl p0, .inr (.inr (.inr (.inr (50, oa))))] M (fun o M' => BX (WP N r.1 r.2.toInt64 M x oa o M')) := by
  refine sem_ofH hl0 rfl (by decide +kernel) rfl ok_L_pull rfl (fun K hc hw => e_step rfl hc 80 [] ?_)
  refine Ct.mono h ?_
  rintro o M' ⟨⟨⟨hf, hr⟩, hN⟩⟩
  obtain ⟨r1, r2⟩ := r
  obtain ⟨k, k1, k2⟩ := hk
  dsimp only at k2 hr
  subst k2
  obtain rfl | rfl : k = 0 ∨ k = 1 := by omega
  · have hr' : o = .inl (some (.inl r2)) := Eq.mp (if_pos (show (nI 0 : Int32) = 0 from rfl)) hr
    clear hr
    subst hr'
    exact ⟨vp_in_iff.mpr (by decide), by decide, by decide, BX.mk (WP.y hf hN)⟩
  · have hr' : o = .inr (exA (nI 1)) := Eq.mp (if_neg (show ¬ (nI 1 : Int32) = 0 by decide)) hr
    clear hr
    subst hr'
    refine e_aftH_x (h := 12) (show hd_L_pull (exA (nI 1)) = some 12 by decide +kernel) (fun a => ?_)
    exact ⟨by decide, by decide, BX.mk (WP.n (c := nI 1) (show ¬ (nI 1 : Int32) = 0 by decide) hf hN)⟩
theorem cw_sync (hl0 : l.stackTraces = false) {M : EM} {x oa : Nat} {r : Int32 × Int32} {N : EM → Prop} (p0 : Int32) (hk : ∃ k, k ≤ 1 ∧ r.1 = nI k) (h : Ct l g sg_X10_sync [.inr (.inr (.inr (.inr (1, x)))), .inl p0] M (fun o M' => BX ((e_fo M M' x (x + 2232) ∧ ResC exA r o) ∧ N M'))) : CtH l g sg_L_sync [.inr (.inr (.inr (.inr (1, x)))), .inl p0, .inr (.inr (.inr (.inr (50, oa))))] M (fun o M' => BX (WP N r.1 r.2.toInt64 M x oa o M')) := by
  refine sem_ofH hl0 rfl (by decide +kernel) rfl ok_L_sync rfl (fun K hc hw => e_step rfl hc 80 [] ?_)
  refine Ct.mono h ?_
  rintro o M' ⟨⟨⟨hf, hr⟩, hN⟩⟩
  obtain ⟨r1, r2⟩ := r
  obtain ⟨k, k1, k2⟩ := hk
  dsimp only at k2 hr
  subst k2
  obtain rfl | rfl : k = 0 ∨ k = 1 := by omega
  · have hr' : o = .inl (some (.inl r2)) := Eq.mp (if_pos (show (nI 0 : Int32) = 0 from rfl)) hr
    clear hr
    subst hr'
    exact ⟨vp_in_iff.mpr (by decide), by decide, by decide, BX.mk (WP.y hf hN)⟩
  · have hr' : o = .inr (exA (nI 1)) := Eq.mp (if_neg (show ¬ (nI 1 : Int32) = 0 by decide)) hr
    clear hr
    subst hr'
    refine e_aftH_x (h := 12) (show hd_L_sync (exA (nI 1)) = some 12 by decide +kernel) (fun a => ?_)
    exact ⟨by decide, by decide, BX.mk (WP.n (c := nI 1) (show ¬ (nI 1 : Int32) = 0 by decide) hf hN)⟩
theorem cw_undo (hl0 : l.stackTraces = false) {M : EM} {x oa : Nat} {r : Int32 × Int32} {N : EM → Prop} (hk : ∃ k, k ≤ 1 ∧ r.1 = nI k) (h : Ct l g sg_X10_undo [.inr (.inr (.inr (.inr (1, x))))] M (fun o M' => BX ((e_fo M M' x (x + 2232) ∧ ResC exS r o) ∧ N M'))) : CtH l g sg_L_undo [.inr (.inr (.inr (.inr (1, x)))), .inr (.inr (.inr (.inr (50, oa))))] M (fun o M' => BX (WP N r.1 r.2.toInt64 M x oa o M')) := by
  refine sem_ofH hl0 rfl (by decide +kernel) rfl ok_L_undo rfl (fun K hc hw => e_step rfl hc 80 [] ?_)
  refine Ct.mono h ?_
  rintro o M' ⟨⟨⟨hf, hr⟩, hN⟩⟩
  obtain ⟨r1, r2⟩ := r
  obtain ⟨k, k1, k2⟩ := hk
  dsimp only at k2 hr
  subst k2
  obtain rfl | rfl : k = 0 ∨ k = 1 := by omega
  · have hr' : o = .inl (some (.inl r2)) := Eq.mp (if_pos (show (nI 0 : Int32) = 0 from rfl)) hr
    clear hr
    subst hr'
    exact ⟨vp_in_iff.mpr (by decide), by decide, by decide, BX.mk (WP.y hf hN)⟩
  · have hr' : o = .inr (exS (nI 1)) := Eq.mp (if_neg (show ¬ (nI 1 : Int32) = 0 by decide)) hr
    clear hr
    subst hr'
    refine e_aftH_x (h := 11) (show hd_L_undo (exS (nI 1)) = some 11 by decide +kernel) (fun a => ?_)
    exact ⟨by decide, by decide, BX.mk (WP.n (c := nI 1) (show ¬ (nI 1 : Int32) = 0 by decide) hf hN)⟩
theorem cw_keep (hl0 : l.stackTraces = false) {M : EM} {x oa : Nat} {r : Int32 × Int32} {N : EM → Prop} (p0 : Int32) (hk : ∃ k, k ≤ 1 ∧ r.1 = nI k) (h : Ct l g sg_X10_keep [.inr (.inr (.inr (.inr (1, x)))), .inl p0] M (fun o M' => BX ((e_fo M M' x (x + 2232) ∧ ResC exA r o) ∧ N M'))) : CtH l g sg_L_keep [.inr (.inr (.inr (.inr (1, x)))), .inl p0, .inr (.inr (.inr (.inr (50, oa))))] M (fun o M' => BX (WP N r.1 r.2.toInt64 M x oa o M')) := by
  refine sem_ofH hl0 rfl (by decide +kernel) rfl ok_L_keep rfl (fun K hc hw => e_step rfl hc 80 [] ?_)
  refine Ct.mono h ?_
  rintro o M' ⟨⟨⟨hf, hr⟩, hN⟩⟩
  obtain ⟨r1, r2⟩ := r
  obtain ⟨k, k1, k2⟩ := hk
  dsimp only at k2 hr
  subst k2
  obtain rfl | rfl : k = 0 ∨ k = 1 := by omega
  · have hr' : o = .inl (some (.inl r2)) := Eq.mp (if_pos (show (nI 0 : Int32) = 0 from rfl)) hr
    clear hr
    subst hr'
    exact ⟨vp_in_iff.mpr (by decide), by decide, by decide, BX.mk (WP.y hf hN)⟩
  · have hr' : o = .inr (exA (nI 1)) := Eq.mp (if_neg (show ¬ (nI 1 : Int32) = 0 by decide)) hr
    clear hr
    subst hr'
    refine e_aftH_x (h := 12) (show hd_L_keep (exA (nI 1)) = some 12 by decide +kernel) (fun a => ?_)
    exact ⟨by decide, by decide, BX.mk (WP.n (c := nI 1) (show ¬ (nI 1 : Int32) = 0 by decide) hf hN)⟩
theorem cw_restore (hl0 : l.stackTraces = false) {M : EM} {x oa : Nat} {r : Int32 × Int32} {N : EM → Prop} (p0 : Int32) (hk : ∃ k, k ≤ 2 ∧ r.1 = nI k) (h : Ct l g sg_X10_restore [.inr (.inr (.inr (.inr (1, x)))), .inl p0] M (fun o M' => BX ((e_fo M M' x (x + 2232) ∧ ResC exA r o) ∧ N M'))) : CtH l g sg_L_restore [.inr (.inr (.inr (.inr (1, x)))), .inl p0, .inr (.inr (.inr (.inr (50, oa))))] M (fun o M' => BX (WP N r.1 r.2.toInt64 M x oa o M')) := by
  refine sem_ofH hl0 rfl (by decide +kernel) rfl ok_L_restore rfl (fun K hc hw => e_step rfl hc 80 [] ?_)
  refine Ct.mono h ?_
  rintro o M' ⟨⟨⟨hf, hr⟩, hN⟩⟩
  obtain ⟨r1, r2⟩ := r
  obtain ⟨k, k1, k2⟩ := hk
  dsimp only at k2 hr
  subst k2
  obtain rfl | rfl | rfl : k = 0 ∨ k = 1 ∨ k = 2 := by omega
  · have hr' : o = .inl (some (.inl r2)) := Eq.mp (if_pos (show (nI 0 : Int32) = 0 from rfl)) hr
    clear hr
    subst hr'
    exact ⟨vp_in_iff.mpr (by decide), by decide, by decide, BX.mk (WP.y hf hN)⟩
  · have hr' : o = .inr (exA (nI 1)) := Eq.mp (if_neg (show ¬ (nI 1 : Int32) = 0 by decide)) hr
    clear hr
    subst hr'
    refine e_aftH_x (h := 12) (show hd_L_restore (exA (nI 1)) = some 12 by decide +kernel) (fun a => ?_)
    exact ⟨by decide, by decide, BX.mk (WP.n (c := nI 1) (show ¬ (nI 1 : Int32) = 0 by decide) hf hN)⟩
  · have hr' : o = .inr (exA (nI 2)) := Eq.mp (if_neg (show ¬ (nI 2 : Int32) = 0 by decide)) hr
    clear hr
    subst hr'
    refine e_aftH_x (h := 15) (show hd_L_restore (exA (nI 2)) = some 15 by decide +kernel) (fun a => ?_)
    exact ⟨by decide, by decide, BX.mk (WP.n (c := nI 2) (show ¬ (nI 2 : Int32) = 0 by decide) hf hN)⟩
end
