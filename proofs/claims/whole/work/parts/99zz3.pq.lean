/-! THE PAIR, 3 (by program): a call of both sides; the questions. -/
section
variable {l : Launch} {g : EG}
/-- ints and longs outside a range are kept -/
def e_fo (M M' : EM) (lo hi : Nat) : Prop := ∀ c, (c < lo ∨ hi ≤ c) → ∀ j, mI M' c j = mI M c j ∧ mL M' c j = mL M c j
theorem e_fr.fo {M M' : EM} {lo hi lo' hi' : Nat} (h : e_fr M M' lo hi) (h1 : lo' ≤ lo) (h2 : hi ≤ hi') : e_fo M M' lo' hi' := fun c hc j => h.2 c j (by omega)
theorem e_fo.tr {M M' M'' : EM} {lo hi : Nat} (h : e_fo M M' lo hi) (h' : e_fo M' M'' lo hi) : e_fo M M'' lo hi := fun c hc j => ⟨((h' c hc j).1).trans (h c hc j).1, ((h' c hc j).2).trans (h c hc j).2⟩
theorem e_fo.sI {M : EM} {lo hi h j : Nat} {v : Int32} (h1 : lo ≤ h) (h2 : h < hi) : e_fo M (sI M h j v) lo hi := fun c hc k => ⟨by rw [mI_sI, if_neg (by omega)], rfl⟩
theorem e_fo.sN {M : EM} {lo hi n : Nat} : e_fo M (sN M n) lo hi := fun c hc k => ⟨rfl, rfl⟩
/-- the class's answer: a value, or the exception of a code -/
def ResC (E : Int32 → String) (r : Int32 × Int32) (o : EO) : Prop := if r.1 = 0 then o = .inl (some (.inl r.2)) else o = .inr (E r.1)
def JD (M : EM) (x : Nat) (F : FM) (T : Nat) : Prop := ∃ nz a c nb B, JC M x F nz a c nb T B
theorem JD.eq {M M' : EM} {x T : Nat} {F : FM} (h : JD M x F T) (he : eqR M M' x (x + 2229)) : JD M' x F T := by
  obtain ⟨nz, a, c, nb, B, h⟩ := h
  exact ⟨nz, a, c, nb, B, h.eq he⟩
/-- a call of the class, then the same one of the reference -/
def Pair (l : Launch) (g : EG) (σ τ : SG) (E : Int32 → String) (K : Nat) (av : List EV) (M : EM) (x m T : Nat) (F : FM) : Prop := ∃ (r : Int32 × Int32) (Pf : FM → Prop), (∃ k, k ≤ K ∧ r.1 = nI k) ∧ Ct l g σ (.inr (.inr (.inr (.inr (1, x)))) :: av) M (fun o M' => BX ((e_fo M M' x (x + 2232) ∧ ResC E r o) ∧ ∀ F', Pf F' → JD M' x F' (T + 9))) ∧ ∀ M1, Ct l g τ (.inr (.inr (.inr (.inr (30, m)))) :: av) (rM M1 m F) (fun o M' => BX (∃ F', (M' = rM M1 m F' ∧ F' 0 0 = r.1) ∧ (∃ w, o = .inl (some (.inl w)) ∧ (r.1 = 0 → w = r.2)) ∧ Pf F'))
theorem Pair.q {σ τ : SG} {E : Int32 → String} {K : Nat} {av : List EV} {M : EM} {x m T : Nat} {F : FM} (h : JD M x F T) {r : Int32 × Int32} (hr : ∃ k, k ≤ K ∧ r.1 = nI k) (h1 : Ct l g σ (.inr (.inr (.inr (.inr (1, x)))) :: av) M (fun o M' => BX (TQ E M x r o M')))
    (h2 : ∀ M1, Ct l g τ (.inr (.inr (.inr (.inr (30, m)))) :: av) (rM M1 m F) (fun o M' => RQ M1 m F r o M')) : Pair l g σ τ E K av M x m T F := by
  obtain ⟨nz, a, c, nb, B, h⟩ := h
  refine ⟨r, rKp F, hr, Ct.mono h1 ?_, fun M1 => Ct.mono (h2 M1) ?_⟩
  · rintro o M' ⟨⟨hf, ho⟩⟩
    refine ⟨⟨⟨hf.fo (by omega) (by omega), ho⟩, fun F' hF' => ⟨nz, a, c, nb, B, ?_⟩⟩⟩
    exact ((h.eq (hf.eq (by omega))).rk hF').T (by omega)
  · rintro o M' ⟨F', e1, hk, e0, w, e2, e3⟩
    exact ⟨⟨F', ⟨e1, e0⟩, ⟨w, e2, e3⟩, hk⟩⟩
theorem Pair.n {σ τ : SG} {E : Int32 → String} {K : Nat} {av : List EV} {M : EM} {x m T : Nat} {F : FM} (h : JD M x F T) {k : Nat} {r : Int32} (hk : k ≤ K) (hr : r = nI k) (h0 : ¬ r = 0) (h1 : Ct l g σ (.inr (.inr (.inr (.inr (1, x)))) :: av) M (fun o M' => BX (TQ E M x (r, 0) o M')))
    (h2 : ∀ M1, Ct l g τ (.inr (.inr (.inr (.inr (30, m)))) :: av) (rM M1 m F) (fun o M' => RN M1 m F r o M')) : Pair l g σ τ E K av M x m T F := by
  refine Pair.q h (r := (r, 0)) ⟨k, hk, hr⟩ h1 (fun M1 => Ct.mono (h2 M1) ?_)
  rintro o M' ⟨F', e1, e2, e3, w, e4⟩
  exact ⟨F', e1, e2, e3, w, e4, fun e => absurd e h0⟩
theorem Pair.a {σ τ : SG} {E : Int32 → String} {K : Nat} {av : List EV} {M : EM} {x m T nz a c nb : Nat} {F : FM} {B : Nat → Nat} (h : JC M x F nz a c nb T B) {s' : Nat → Int32} {v : Int32} (hi : sIv s' nz) (hz : sZo s' nz) (hk : ∃ k, s' 0 = nI k ∧ k ≤ T + 9)
    (h1 : Ct l g σ (.inr (.inr (.inr (.inr (1, x)))) :: av) M (fun o M' => AQ M x a c nz s' v o M'))
    (h2 : ∀ M1, Ct l g τ (.inr (.inr (.inr (.inr (30, m)))) :: av) (rM M1 m F) (fun o M' => RY M1 m v (fun F' => F' 1 = s' ∧ rAc F F' c) o M')) : Pair l g σ τ E K av M x m T F := by
  have ha : a < 12 := h.2.1.1.2.1
  refine ⟨(0, v), fun F' => F' 1 = s' ∧ rAc F F' c, ⟨0, by omega, rfl⟩, Ct.mono h1 ?_, fun M1 => Ct.mono (h2 M1) ?_⟩
  · rintro o M' ⟨⟨hy, ho⟩⟩
    refine ⟨⟨⟨?_, ?_⟩, fun F' hF' => ⟨nz, (a + 1) % 12, min 12 (c + 1), nb, B, h.act hy hF'.2 hF'.1 hi hz hk (by omega)⟩⟩⟩
    · obtain ⟨M1, ⟨M0, f0, -, e1⟩, f1, -⟩ := hy
      subst e1
      exact ((((f0.fo (by omega) (by omega)).tr (e_fo.sI (by omega) (by omega))).tr (e_fo.sI (by omega) (by omega))).tr (f1.fo (by omega) (by omega)))
    · unfold ResC
      rw [if_pos rfl]; exact ho
  · rintro o M' ⟨F', e1, e2, e3, e4⟩
    exact ⟨⟨F', ⟨e1, e2⟩, ⟨v, e4, fun _ => rfl⟩, e3⟩⟩
theorem kz0 {K : Nat} {b : Int32} : ∃ k, k ≤ K ∧ ((0, b) : Int32 × Int32).1 = nI k := ⟨0, by omega, rfl⟩
theorem kz1 {K : Nat} {b : Int32} (h : 1 ≤ K) : ∃ k, k ≤ K ∧ ((1, b) : Int32 × Int32).1 = nI k := ⟨1, h, rfl⟩
theorem kz2 {K : Nat} {b : Int32} (h : 2 ≤ K) : ∃ k, k ≤ K ∧ ((2, b) : Int32 × Int32).1 = nI k := ⟨2, h, rfl⟩
theorem kz3 {K : Nat} {b : Int32} (h : 3 ≤ K) : ∃ k, k ≤ K ∧ ((3, b) : Int32 × Int32).1 = nI k := ⟨3, h, rfl⟩
theorem px_day (hl0 : l.stackTraces = false) {M : EM} {x m T : Nat} {F : FM} (hj : JD M x F T) (D W : Int32) : Pair l g sg_X10_day sg_X11_day exA 1 [.inl D, .inl W] M x m T F := by
  obtain ⟨nz, a, c, nb, B, h⟩ := id hj
  refine Pair.q hj (r := sp_day  D W) ?_ (cq_day hl0 M D W) (fun M1 => cr_day hl0 M1 F D W)
  unfold sp_day
  repeat' split
  all_goals first | exact kz0 | exact kz1 (by decide) | exact kz2 (by decide) | exact kz3 (by decide) | fail
theorem px_zone (hl0 : l.stackTraces = false) {M : EM} {x m T : Nat} {F : FM} (hj : JD M x F T) (P z W : Int32) : Pair l g sg_X10_zone sg_X11_zone exA 3 [.inl P, .inl z, .inl W] M x m T F := by
  obtain ⟨nz, a, c, nb, B, h⟩ := id hj
  refine Pair.q hj (r := sp_zone F P z W) ?_ (cq_zone hl0 M h.qh P z W) (fun M1 => cr_zone hl0 M1 F P z W h.1.2 h.1.1.nz.1 h.1.1.nz.2)
  unfold sp_zone
  repeat' split
  all_goals first | exact kz0 | exact kz1 (by decide) | exact kz2 (by decide) | exact kz3 (by decide) | fail
theorem px_moment (hl0 : l.stackTraces = false) {M : EM} {x m T : Nat} {F : FM} (hj : JD M x F T) (P z d mi : Int32) : Pair l g sg_X10_moment sg_X11_moment exA 2 [.inl P, .inl z, .inl d, .inl mi] M x m T F := by
  obtain ⟨nz, a, c, nb, B, h⟩ := id hj
  refine Pair.q hj (r := sp_moment F P z d mi) ?_ (cq_moment hl0 M h.qh P z d mi) (fun M1 => cr_moment hl0 M1 F P z d mi h.1.2 h.1.1.nz.1 h.1.1.nz.2)
  unfold sp_moment
  repeat' split
  all_goals first | exact kz0 | exact kz1 (by decide) | exact kz2 (by decide) | exact kz3 (by decide) | fail
theorem px_events (hl0 : l.stackTraces = false) {M : EM} {x m T : Nat} {F : FM} (hj : JD M x F T) (P : Int32) : Pair l g sg_X10_events sg_X11_events exA 1 [.inl P] M x m T F := by
  obtain ⟨nz, a, c, nb, B, h⟩ := id hj
  refine Pair.q hj (r := sp_events F P) ?_ (cq_events hl0 M h.qh P) (fun M1 => cr_events hl0 M1 F P)
  unfold sp_events
  repeat' split
  all_goals first | exact kz0 | exact kz1 (by decide) | exact kz2 (by decide) | exact kz3 (by decide) | fail
theorem px_event (hl0 : l.stackTraces = false) {M : EM} {x m T : Nat} {F : FM} (hj : JD M x F T) (P v W : Int32) : Pair l g sg_X10_event sg_X11_event exA 3 [.inl P, .inl v, .inl W] M x m T F := by
  obtain ⟨nz, a, c, nb, B, h⟩ := id hj
  refine Pair.q hj (r := sp_event F P v W) ?_ (cq_event hl0 M h.qh P v W) (fun M1 => cr_event hl0 M1 F P v W h.wf)
  unfold sp_event sp_wrong
  repeat' split
  all_goals first | exact kz0 | exact kz1 (by decide) | exact kz2 (by decide) | exact kz3 (by decide) | fail
theorem px_date (hl0 : l.stackTraces = false) {M : EM} {x m T : Nat} {F : FM} (hj : JD M x F T) (P v D W : Int32) : Pair l g sg_X10_date sg_X11_date exA 3 [.inl P, .inl v, .inl D, .inl W] M x m T F := by
  obtain ⟨nz, a, c, nb, B, h⟩ := id hj
  refine Pair.q hj (r := sp_date F P v D W) ?_ (cq_date hl0 M h.qh P v D W) (fun M1 => cr_date hl0 M1 F P v D W h.wf)
  unfold sp_date sp_wrong
  repeat' split
  all_goals first | exact kz0 | exact kz1 (by decide) | exact kz2 (by decide) | exact kz3 (by decide) | fail
theorem px_answer (hl0 : l.stackTraces = false) {M : EM} {x m T : Nat} {F : FM} (hj : JD M x F T) (P v S : Int32) : Pair l g sg_X10_answer sg_X11_answer exA 2 [.inl P, .inl v, .inl S] M x m T F := by
  obtain ⟨nz, a, c, nb, B, h⟩ := id hj
  refine Pair.q hj (r := sp_answer F P v S) ?_ (cq_answer hl0 M h.qh P v S) (fun M1 => cr_answer hl0 M1 F P v S)
  unfold sp_answer
  repeat' split
  all_goals first | exact kz0 | exact kz1 (by decide) | exact kz2 (by decide) | exact kz3 (by decide) | fail
theorem px_agenda (hl0 : l.stackTraces = false) {M : EM} {x m T : Nat} {F : FM} (hj : JD M x F T) (P f t : Int32) : Pair l g sg_X10_agenda sg_X11_agenda exA 1 [.inl P, .inl f, .inl t] M x m T F := by
  obtain ⟨nz, a, c, nb, B, h⟩ := id hj
  refine Pair.q hj (r := sp_agenda F P f t) ?_ (cq_agenda hl0 M h.qh P f t) (fun M1 => cr_agenda hl0 M1 F P f t h.wf)
  unfold sp_agenda
  repeat' split
  all_goals first | exact kz0 | exact kz1 (by decide) | exact kz2 (by decide) | exact kz3 (by decide) | fail
theorem px_agendaAt (hl0 : l.stackTraces = false) {M : EM} {x m T : Nat} {F : FM} (hj : JD M x F T) (P f i W : Int32) : Pair l g sg_X10_agendaAt sg_X11_agendaAt exA 3 [.inl P, .inl f, .inl i, .inl W] M x m T F := by
  obtain ⟨nz, a, c, nb, B, h⟩ := id hj
  refine Pair.q hj (r := sp_agendaAt F P f i W) ?_ (cq_agendaAt hl0 M h.qh P f i W) (fun M1 => cr_agendaAt hl0 M1 F P f i W h.wf)
  unfold sp_agendaAt
  repeat' split
  all_goals first | exact kz0 | exact kz1 (by decide) | exact kz2 (by decide) | exact kz3 (by decide) | fail
theorem px_clashes (hl0 : l.stackTraces = false) {M : EM} {x m T : Nat} {F : FM} (hj : JD M x F T) (P : Int32) : Pair l g sg_X10_clashes sg_X11_clashes exA 1 [.inl P] M x m T F := by
  obtain ⟨nz, a, c, nb, B, h⟩ := id hj
  refine Pair.q hj (r := sp_clashes F P) ?_ (cq_clashes hl0 M h.qh P) (fun M1 => cr_clashes hl0 M1 F P h.wf)
  unfold sp_clashes
  repeat' split
  all_goals first | exact kz0 | exact kz1 (by decide) | exact kz2 (by decide) | exact kz3 (by decide) | fail
theorem px_busyBits (hl0 : l.stackTraces = false) {M : EM} {x m T : Nat} {F : FM} (hj : JD M x F T) (P f t : Int32) : Pair l g sg_X10_busyBits sg_X11_busyBits exA 1 [.inl P, .inl f, .inl t] M x m T F := by
  obtain ⟨nz, a, c, nb, B, h⟩ := id hj
  refine Pair.q hj (r := sp_busyBits F P f t) ?_ (cq_busyBits hl0 M h.qh P f t) (fun M1 => cr_busyBits hl0 M1 F P f t h.wf)
  unfold sp_busyBits
  repeat' split
  all_goals first | exact kz0 | exact kz1 (by decide) | exact kz2 (by decide) | exact kz3 (by decide) | fail
theorem px_isSame (hl0 : l.stackTraces = false) {M : EM} {x m T : Nat} {F : FM} (hj : JD M x F T) (S : Int32) : Pair l g sg_X10_isSame sg_X11_isSame exA 1 [.inl S] M x m T F := by
  obtain ⟨nz, a, c, nb, B, h⟩ := id hj
  refine Pair.q hj (r := sp_isSame F S) ?_ (cq_isSame hl0 M h.qh S) (fun M1 => cr_isSame hl0 M1 F S h.wf)
  unfold sp_isSame
  repeat' split
  all_goals first | exact kz0 | exact kz1 (by decide) | exact kz2 (by decide) | exact kz3 (by decide) | fail
theorem px_side (hl0 : l.stackTraces = false) {M : EM} {x m T : Nat} {F : FM} (hj : JD M x F T) (S W : Int32) : Pair l g sg_X10_side sg_X11_side exA 1 [.inl S, .inl W] M x m T F := by
  obtain ⟨nz, a, c, nb, B, h⟩ := id hj
  refine Pair.q hj (r := sp_side F S W) ?_ (cq_side hl0 M h.qh S W) (fun M1 => cr_side hl0 M1 F S W h.lg)
  unfold sp_side
  repeat' split
  all_goals first | exact kz0 | exact kz1 (by decide) | exact kz2 (by decide) | exact kz3 (by decide) | fail
theorem px_account (hl0 : l.stackTraces = false) {M : EM} {x m T : Nat} {F : FM} (hj : JD M x F T) (S W : Int32) : Pair l g sg_X10_account sg_X11_account exA 1 [.inl S, .inl W] M x m T F := by
  obtain ⟨nz, a, c, nb, B, h⟩ := id hj
  refine Pair.q hj (r := sp_account F S W) ?_ (cq_account hl0 M h.qh S W) (fun M1 => cr_account hl0 M1 F S W)
  unfold sp_account
  repeat' split
  all_goals first | exact kz0 | exact kz1 (by decide) | exact kz2 (by decide) | exact kz3 (by decide) | fail
end
