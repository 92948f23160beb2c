def R_law : String := "CalendarSyncLaw"
def lw_P (b : Addr) (xs : List Int32) (args : Array Value) (s : State) : Prop := args = #[.ref b] ∧ s.IntsAt b xs ∧ xs.length ≤ 3584 ∧ (Jvm.Cond.and given_1 narrow_1).before args s = true
/-- what a walk over the start with the record d0 says of its end, said of the start itself -/
theorem lw_closed {s t : State} {o : Outcome} {d0 : Drawn} {L : List Loc} {k n : Nat} (hd0 : s.drawn.sameBut d0 lw_cs) (hv : ∃ v, o = .returned v) (hW : (s.setDrawn d0).WarmedH t.vm) (hs : (s.setDrawn d0).sameButNew ({ t with vm := s.vm } : State) L k n) : State.butDraws s t lw_cs (fun t1 => Framed s o t1 L k n) := by
  have h2 : t.drawn = d0 := congrArg State.drawn hs.1
  refine ⟨⟨hv, hW, State.sameButNew.setDrawn hs s.drawn⟩, ?_, by decide⟩
  rw [h2]
  exact hd0
def lw_Q (_ : Array Value) (s : State) (o : Outcome) (t : State) : Prop := o = .returned (some (.int 1)) ∧ State.butDraws s t lw_cs (fun t1 => Framed s o t1 [] 601024 7293034)
def lw_Z (below : List Frame) (a : Array Value) (s : State) : State → Prop := fun t => ∃ o, t.status = .running ∧ Ended t below o ∧ lw_Q a s o t
/-- the law's own end, with 1 on the stack, nothing written that was there before, its room as the claim has it; d0: the record of draws at this point (at the entry s.drawn: begin with 'refine W.base ?_' and 'have hd0 := Drawn.sameBut.refl s.drawn lw_cs') -/
theorem lw_ret {p : Program} {l : Launch} {e : Env} {s : State} {m : MethodId} {below : List Frame} {meth : Method} {c : Code} {b : Nat} {d0 : Drawn} (hd0 : s.drawn.sameBut d0 lw_cs) (hx : p.tables.exec = Jvm.exec) (hb : c.code = code) (hr : meth.sig.returnType = ret) (hlocks : meth.locks = false) {pc : Nat} {H : Heap} {ls : Array Slot} (hdg : decode code pc = .ok (.ireturn, 1)) : W p l e room_1 (s.setDrawn d0) m #[Value.ref b] below meth c H [] 601024 7293034 (lw_Z below #[Value.ref b] s) (F0 m pc ls [.int 1]) := by
  intro T hT X
  obtain ⟨fs, hret, hrun, hended, hW, hframe⟩ := X.leave (v := some (.int 1)) (hlocks := hlocks) (fun h => by rw [hr] at h; cases h)
  have hmeth' : T.vm.method? m = some meth := X.method'
  refine ⟨T.setFrames fs, ?_, .returned (some (.int 1)), hrun, hended, rfl, lw_closed hd0 ⟨_, rfl⟩ hW hframe⟩
  jvm_step X.here [X.here.top, hx, hb, hdg, hmeth', hr, ret, narrow_b1]
  (try refine ⟨rfl, ?_⟩); (try refine ⟨rfl, ?_⟩)
  first | (intro acts; rw [hret _ acts rfl rfl rfl]) | rw [hret _ _ rfl rfl rfl]
  exact Steps.refl _
/-- what holds at the law's entry: the machine, the code, the tables' words (any of lw_tbl by 'hts w (by decide +kernel)'), the script of L ints xs at the cell b, what the Statement gives of the start (any of its parts by flat_of_before) -/
def lw_At (p : Program) (s : State) (m : MethodId) (meth : Method) (c : Code) (b L : Nat) (xs : Nat → Int32) : Prop :=
  p.tables.exec = Jvm.exec ∧ c.code = code ∧ meth.sig.returnType = ret ∧ c.maxLocals = 8 ∧ s.vm.findClass R_law = some m.cls ∧ (∀ w ∈ lw_tbl, w.before #[Value.ref b] s = true) ∧ va_X b L xs s s.heap ∧ b < s.heap.size ∧ meth.locks = false ∧ (Jvm.Cond.and given_1 narrow_1).before #[Value.ref b] s = true
/-- what the law's end says, out of the engine's end -/
theorem lw_of {p : Program} {l : Launch} {e : Env} {R : Room} {s : State} {m : MethodId} {below : List Frame} {b : Nat} {g : EG} {M0 : EM} {t : State} (hz : gZ g = s.heap.size) (h : vx_MQ below (e_Qc g none M0 (fun o _ => o = .inl (some (.inl 1)))) (e_XC g none M0 (fun o _ => o = .inl (some (.inl 1)))) #[Value.ref b] s 601024 7293034 (eA g) t) : lw_Z below #[Value.ref b] s t := by
  obtain ⟨o, h1, h2, ⟨⟨v, M', e1, -, -, -, -, -, e2⟩, L, hf, hL⟩ | ⟨q, -, E, ce, L, ⟨M', -, -, -, -, e2⟩, -⟩⟩ := h
  · cases Sum.inl.inj e2
    subst e1
    refine ⟨_, h1, h2, rfl, ?_⟩
    have hW : s.WarmedH t.vm := hf.2.1
    have hs : s.sameButNew ({ t with vm := s.vm } : State) L 601024 7293034 := hf.2.2
    refine lw_closed (d0 := s.drawn) (Drawn.sameBut.refl s.drawn lw_cs) ⟨_, rfl⟩ hW (hs.weaken (fun y hy hlt => ?_) (Nat.le_refl _) (Nat.le_refl _))
    have := hL y hy
    unfold eA at this
    rw [hz] at this
    exact absurd hlt (Nat.not_lt.mpr this)
  · cases e2
theorem whole_start {p : Program} {e : Env} {s : State} {m : MethodId} {below : List Frame} {meth : Method} {c : Code} (l : Launch) (hflags : l.flags = flags0) {b L : Nat} {xs : Nat → Int32} (hL : L ≤ 3584) (C0 : lw_At p s m meth c b L xs) (hname : meth.name = "law") (htab : c.exceptionTable.toList = []) : W p l e room_1 s m #[Value.ref b] below meth c s.heap [] 0 0 (lw_Z below #[Value.ref b] s) (entryFrame m ([Value.ref b] : List Value).toArray 8) := by
  obtain ⟨hx, hb, hr, hml, hown, hts, hX, hbl, hlocks, hgv⟩ := C0
  have hl0 : l.stackTraces = false := by unfold Launch.stackTraces; rw [hflags]; decide +kernel
  obtain ⟨g, hG, hz, hs16, hN⟩ := e_init hts hgv
  have X : Cx p l g sg_L_law room_1 s m #[Value.ref b] meth c "CalendarSyncLaw" := ⟨hx, hb, hr, hml, hown, hlocks, hG, rfl, hl0, hname, htab⟩
  obtain ⟨M0, hM0⟩ : ∃ M0 : EM, M0 = (fun _ => 0, fun _ _ => 0, fun _ _ => 0, fun _ _ => none, s.heap.size, []) := ⟨_, rfl⟩
  have hA0 : mA M0 = [] := by rw [hM0]; rfl
  have hN0 : mN M0 = s.heap.size := by rw [hM0]; rfl
  have hscr : e_scr g b L xs s := ⟨hX, hbl, by unfold eA; rw [hz]; exact Nat.not_le.mpr hbl, hs16⟩
  have hwk : e_wk (fun t ls st M' nc ns => Run p l e g sg_L_law room_1 s m #[Value.ref b] below meth c none M0 (fun o _ => o = .inl (some (.inl 1))) t ls st M' nc ns) := by
    intro t ls ls' st M' nc ns hsub h H locs lsM hl ok le vl vs hS hF
    exact h H locs lsM (e_has_sub hl (fun q hq => e_asc_sub hsub hq)) ok le (e_allL_sub hsub vl) vs hS hF
  have hc : LC l g L xs (fun o _ => o = .inl (some (.inl 1))) (fun t ls st M' nc ns => Run p l e g sg_L_law room_1 s m #[Value.ref b] below meth c none M0 (fun o _ => o = .inl (some (.inl 1))) t ls st M' nc ns) :=
    ⟨hwk, e_each_mono (fun pc np f h => h) (okL_A p e _ s m _ below meth c none M0 _ X hN hscr hA0), e_each_mono (fun pc np f h => h) (okL_Z p e _ s m _ below meth c none M0 _ X hN hscr hA0), e_each_mono (fun pc np f h => h) (okL_0 p e _ s m _ below meth c none M0 _ X hN hscr hA0), e_each_mono (fun pc np f h => h) (okL_1 p e _ s m _ below meth c none M0 _ X hN hscr hA0), e_each_mono (fun pc np f h => h) (okL_2 p e _ s m _ below meth c none M0 _ X hN hscr hA0), e_each_mono (fun pc np f h => h) (okL_3 p e _ s m _ below meth c none M0 _ X hN hscr hA0), e_each_mono (fun pc np f h => h) (okL_4 p e _ s m _ below meth c none M0 _ X hN hscr hA0), e_each_mono (fun pc np f h => h) (okL_5 p e _ s m _ below meth c none M0 _ X hN hscr hA0), e_each_mono (fun pc np f h => h) (okL_6 p e _ s m _ below meth c none M0 _ X hN hscr hA0), e_each_mono (fun pc np f h => h) (okL_7 p e _ s m _ below meth c none M0 _ X hN hscr hA0), e_each_mono (fun pc np f h => h) (okL_8 p e _ s m _ below meth c none M0 _ X hN hscr hA0), e_each_mono (fun pc np f h => h) (okL_9 p e _ s m _ below meth c none M0 _ X hN hscr hA0), e_each_mono (fun pc np f h => h) (okL_10 p e _ s m _ below meth c none M0 _ X hN hscr hA0), e_each_mono (fun pc np f h => h) (okL_11 p e _ s m _ below meth c none M0 _ X hN hscr hA0), e_each_mono (fun pc np f h => h) (okL_12 p e _ s m _ below meth c none M0 _ X hN hscr hA0), e_each_mono (fun pc np f h => h) (okL_13 p e _ s m _ below meth c none M0 _ X hN hscr hA0), e_each_mono (fun pc np f h => h) (okL_14 p e _ s m _ below meth c none M0 _ X hN hscr hA0), e_each_mono (fun pc np f h => h) (okL_15 p e _ s m _ below meth c none M0 _ X hN hscr hA0), e_each_mono (fun pc np f h => h) (okL_16 p e _ s m _ below meth c none M0 _ X hN hscr hA0), e_each_mono (fun pc np f h => h) (okL_17 p e _ s m _ below meth c none M0 _ X hN hscr hA0), e_each_mono (fun pc np f h => h) (okL_18 p e _ s m _ below meth c none M0 _ X hN hscr hA0), e_each_mono (fun pc np f h => h) (okL_19 p e _ s m _ below meth c none M0 _ X hN hscr hA0), e_each_mono (fun pc np f h => h) (okL_20 p e _ s m _ below meth c none M0 _ X hN hscr hA0), e_each_mono (fun pc np f h => h) (okL_21 p e _ s m _ below meth c none M0 _ X hN hscr hA0), e_each_mono (fun pc np f h => h) (okL_22 p e _ s m _ below meth c none M0 _ X hN hscr hA0), e_each_mono (fun pc np f h => h) (okL_23 p e _ s m _ below meth c none M0 _ X hN hscr hA0), e_each_mono (fun pc np f h => h) (okL_24 p e _ s m _ below meth c none M0 _ X hN hscr hA0), e_each_mono (fun pc np f h => h) (okL_25 p e _ s m _ below meth c none M0 _ X hN hscr hA0), e_each_mono (fun pc np f h => h) (okL_26 p e _ s m _ below meth c none M0 _ X hN hscr hA0), e_each_mono (fun pc np f h => h) (okL_27 p e _ s m _ below meth c none M0 _ X hN hscr hA0), e_each_mono (fun pc np f h => h) (okL_28 p e _ s m _ below meth c none M0 _ X hN hscr hA0), e_each_mono (fun pc np f h => h) (okL_29 p e _ s m _ below meth c none M0 _ X hN hscr hA0), e_each_mono (fun pc np f h => h) (okL_30 p e _ s m _ below meth c none M0 _ X hN hscr hA0), e_each_mono (fun pc np f h => h) (okL_31 p e _ s m _ below meth c none M0 _ X hN hscr hA0), e_each_mono (fun pc np f h => h) (okL_32 p e _ s m _ below meth c none M0 _ X hN hscr hA0)⟩
  have h0 := law_start hl0 hc run_gh hA0 (by rw [hN0]; exact hbl) hs16 (fun _ => rfl) hL
  have hl := lv_entry [Value.ref b] (n := 8) (Nat.le_of_ble_eq_true rfl)
  rw [lg_entry_eq]
  have hv : e_all g M0 [.inr (.inr (.inr (.inr (216, b))))] := ⟨Or.inr (Or.inr (Or.inl ⟨by show 200 ≤ 216; decide, by show 216 < 217; decide, by show b = gS g (216 - 200); exact hs16.symm.trans (congrArg (gS g) (show (16 : Nat) = 216 - 200 by decide))⟩)), trivial⟩
  have hSt : e_St g M0 s.heap := by
    have e0 : e_wd g M0 = [] := by unfold e_wd; rw [hA0]; rfl
    refine ⟨hN0.symm, ?_, ?_⟩
    · rw [e0]; exact fun k q h => by simp at h
    · rw [e0]; exact ⟨fun i j p q h => by simp at h, fun k q h => by simp at h⟩
  have run := h0 s.heap [] _ (e_has_sub hl (fun q hq => e_l0_in (av := [.inr (.inr (.inr (.inr (216, b))))]) hq)) (fun a ha => by rw [hA0] at ha; nomatch ha) e_le.rf (e_l0_all hv) trivial hSt va_S.rf
  intro T hT X1
  obtain ⟨t, st, hQ⟩ := run T hT X1
  exact ⟨t, st, lw_of (p := p) (l := l) (e := e) (R := room_1) (m := m) hz hQ⟩
