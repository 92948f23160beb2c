/-! THE ENGINE, 15 (p36): calls of methods of a builder, of a superclass, of a text of either kind; a constructor with an argument, with null. -/
theorem e_selP {C : String} {y : MethodName} {s : State} {args : Array Value} {n : Nat} (hins : (Cond.instantiable C n).before args s = true) (hsame : (Cond.sameMethod y.cls y.cls y.name y.desc).before args s = true) (hpriv : (Cond.privateMethod y).before args s = true) (hinst : (Cond.instanceMethod y).before args s = true) : (Cond.selects C y y).before args s = true := by
  obtain ⟨c, k, hc, hk, -, -, -, -⟩ := Cond.instantiable_spec hins
  obtain ⟨cn, ck, r1, hcn, hck, hni, hf, hn1⟩ := Cond.sameMethod_found hsame
  obtain ⟨mk, methM, hnamed, hmethM, -, -⟩ := Cond.instanceMethod_spec hinst
  have hn2 : s.methodNamed? y = some r1 := hn1
  have hr : r1 = mk := Option.some.inj (hn2.symm.trans hnamed)
  subst hr
  have hcls : r1.cls = cn := Option.some.inj ((findClass_of_methodNamed hnamed).symm.trans hcn)
  have hsel : selectMethod {} s.vm c r1 = .method r1 := selectMethod_private hmethM (Cond.privateMethod_at hpriv r1 methM hnamed hmethM)
  simp only [Cond.before, Cond.holds, Cond.value, hc, hf, hnamed, hsel, hcls, hck]
  simp; exact hni
section RX
variable {p : Program} {l : Launch} {e : Env} {g : EG} {σ : SG} {R : Room} {s : State} {m : MethodId} {args : Array Value} {below : List Frame} {meth : Method} {c : Code} {ex : Option Nat} {M0 : EM} {Q : EO → EM → Prop} {own : String} {pc np : Nat}
/-- a method of a builder, found by the builder -/
def s_callU (l : Launch) (g : EG) (σ τ : SG) : ES := fun ret _ nx ls st M nc ns => e_pop (gnp τ + 1) [] st (fun av r => match Nat.ble (e_wt r) 8 with
  | true => match av with
    | .inr (.inr (.inr (.inr q))) :: _ => q.1 = 57 ∧ (nc + gmc τ ≤ gmc σ ∧ ns + gms τ ≤ gms σ) ∧ Ct l g τ av M (e_aft τ ret nx ls r nc ns)
    | _ => False
  | false => False)
theorem r_callU (X : Cx p l g σ R s m args meth c own) (hh : ghh σ = []) {τ : SG} {x : MethodName} {owner : String} {index : Nat} {b0 : ByteArray} {m0 : Nat} {r0 : Option FieldType} (hd : decode (gcc σ) pc = .ok (.invokevirtual index, 3)) (hlk : Cond.methodLink own index x ∈ e_good) (hsame : Cond.sameMethod x.cls owner x.name x.desc ∈ e_good) (hown : owner ≠ "java/lang/invoke/MethodHandle" ∧ owner ≠ "java/lang/invoke/VarHandle")
    (hdi : Cond.instanceMethod ⟨owner, x.name, x.desc⟩ ∈ e_good) (hdc : Cond.code ⟨owner, x.name, x.desc⟩ b0 m0 r0 ∈ e_good) (hsel : (∀ w ∈ e_good, w.before args s = true) → (Cond.selects "java/lang/StringBuilder" x (gy τ)).before args s = true) (hin : Cond.instanceMethod (gy τ) ∈ e_good) (hc : e_cs τ) (hde : x.desc = (gy τ).desc) (hct : gct τ = false) (hR : e_fits τ σ) (hn : pc + 3 = np) : RowOk p l e g σ R s m args below meth c ex M0 Q pc np (s_callU l g σ τ) := by
  intro J hJ ls st M nc ns h
  subst hn
  unfold s_callU at h
  obtain ⟨av, r, rfl, hlen, h⟩ := e_pop_inv h
  rw [List.append_nil] at h
  intro H locs lsM hl ok le vl vs hS hF
  obtain ⟨va0, vr⟩ := e_all_app vs
  have va := e_all_rev va0
  split at h
  · rename_i hrm
    have hG := X.2.2.2.2.2.2.1
    have hRR := X.2.2.2.2.2.2.2.1
    have hts : ∀ w ∈ e_good, w.before args s = true := fun w hw => e_wd0 hG hw
    split at h
    · rename_i q av' hz
      obtain ⟨hq, hrm2, h⟩ := h
      have hq' : e_kd q.1 = some (.inl 10) := by rw [hq]; rfl
      have cw : va_CU R s args own "java/lang/StringBuilder" owner index x (gy τ) (gcc τ) (gml τ) (grt τ) (gws τ) (grm τ) (gmc τ) (gms τ) (gnp τ) := by
        refine ⟨⟨rfl, rfl, by rw [hRR]; exact hR.1, by rw [hRR]; exact hR.2, fun w hw a' U hW => ?_, by rw [← hc.2.2.2.2]; exact List.mem_singleton.mpr rfl⟩, by rw [← hc.2.2.2.2]; exact hts _ hc.1, hts _ hc.2.1, hown, fun sig h => ?_, hts _ hlk, hts _ hsame, va_Decl.of (hts _ hdi) (hts _ hdc), hsel hts, hts _ hin⟩
        · rw [List.mem_singleton.mp hw]
          exact word_at hW (good_of_word (List.mem_filter.mp hc.1).2) (e_wd0 (args := #[]) hG hc.1)
        · have h2 := hc.2.2.2.1
          rw [← hde, h] at h2
          exact (Option.some.inj h2).symm
      exact e_after X hh hct hJ hl le vl vr hF (vx_runU (b := q.2) (As := av'.map e_tv) (e_fix X) (h ok va) cw (e_preV X (ci := 10) (by decide) rfl hq' va.1 hS hF (av'.map e_tv)) rfl (by simpa using hlen) (by rw [← X.2.2.2.1]; exact hl.1.trans X.2.2.2.1.symm) (by simp [e_tv]) (lv_room (e_wt8 hrm)) hd ⟨by rw [hRR]; exact hrm2.1, by rw [hRR]; exact hrm2.2⟩)
    · exact h.elim
  · exact h.elim
/-- super.m(..) on a builder -/
theorem r_callSup (X : Cx p l g σ R s m args meth c own) (hh : ghh σ = []) {τ : SG} {index : Nat} (hd : decode (gcc σ) pc = .ok (.invokespecial index, 3)) (hlk : Cond.methodLink own index (gy τ) ∈ e_good) (hsame : Cond.sameMethod (gy τ).cls (gy τ).cls (gy τ).name (gy τ).desc ∈ e_good) (hsup : Cond.superclass own (gy τ).cls ∈ e_good)
    (hin : Cond.instanceMethod (gy τ) ∈ e_good) (hc : e_cs τ) (hno : (gy τ).name ≠ "<init>") (hct : gct τ = false) (hR : e_fits τ σ) (hn : pc + 3 = np) : RowOk p l e g σ R s m args below meth c ex M0 Q pc np (s_callU l g σ τ) := by
  intro J hJ ls st M nc ns h
  subst hn
  unfold s_callU at h
  obtain ⟨av, r, rfl, hlen, h⟩ := e_pop_inv h
  rw [List.append_nil] at h
  intro H locs lsM hl ok le vl vs hS hF
  obtain ⟨va0, vr⟩ := e_all_app vs
  have va := e_all_rev va0
  split at h
  · rename_i hrm
    have hG := X.2.2.2.2.2.2.1
    have hRR := X.2.2.2.2.2.2.2.1
    have hts : ∀ w ∈ e_good, w.before args s = true := fun w hw => e_wd0 hG hw
    split at h
    · rename_i q av' hz
      obtain ⟨hq, hrm2, h⟩ := h
      have hq' : e_kd q.1 = some (.inl 10) := by rw [hq]; rfl
      have hcls := (hG.1.1 10 _ (e_cl_at 10 (by decide))).2
      have cw : va_CS R s args own index (gy τ) (gcc τ) (gml τ) (grt τ) (gws τ) (grm τ) (gmc τ) (gms τ) (gnp τ) := by
        refine ⟨⟨rfl, rfl, by rw [hRR]; exact hR.1, by rw [hRR]; exact hR.2, fun w hw a' U hW => ?_, by rw [← hc.2.2.2.2]; exact List.mem_singleton.mpr rfl⟩, hts _ hlk, hts _ hsame, hts _ hsup, hts _ hin, hts _ hc.2.1, by rw [← hc.2.2.2.2]; exact hts _ hc.1, hno, fun sig h => ?_⟩
        · rw [List.mem_singleton.mp hw]
          exact word_at hW (good_of_word (List.mem_filter.mp hc.1).2) (e_wd0 (args := #[]) hG hc.1)
        · have h2 := hc.2.2.2.1
          rw [h] at h2
          exact (Option.some.inj h2).symm
      exact e_after X hh hct hJ hl le vl vr hF (vx_runSU hcls (b := q.2) (As := av'.map e_tv) (e_fix X) (h ok va) cw (e_preV X (ci := 10) (C := e_cR 10) (by decide) rfl hq' va.1 hS hF (av'.map e_tv)) rfl (by simpa using hlen) (by rw [← X.2.2.2.1]; exact hl.1.trans X.2.2.2.1.symm) (by simp [e_tv]) (lv_room (e_wt8 hrm)) hd ⟨by rw [hRR]; exact hrm2.1, by rw [hRR]; exact hrm2.2⟩)
    · exact h.elim
  · exact h.elim
/-- a constructor with arguments -/
def s_callIA (l : Launch) (g : EG) (σ τ : SG) : ES := fun ret _ nx ls st M nc ns => e_pop (gnp τ + 1) [] st (fun av r => match Nat.ble (e_wt r) 8 with
  | true => match av with
    | .inr (.inr (.inr (.inr _))) :: _ => (nc + gmc τ ≤ gmc σ ∧ ns + gms τ ≤ gms σ) ∧ Ct l g τ av M (e_aft τ ret nx ls r nc ns)
    | _ => False
  | false => False)
theorem r_callIA (X : Cx p l g σ R s m args meth c own) (hh : ghh σ = []) {τ : SG} {index : Nat} (hd : decode (gcc σ) pc = .ok (.invokespecial index, 3)) (hlk : Cond.methodLink own index (gy τ) ∈ e_good) (hin : Cond.instanceMethod (gy τ) ∈ e_good) (hc : e_cs τ) (hct : gct τ = false) (hret : grt τ = none) (hnm : (gy τ).name = "<init>") (hR : e_fits τ σ) (hn : pc + 3 = np) : RowOk p l e g σ R s m args below meth c ex M0 Q pc np (s_callIA l g σ τ) := by
  intro J hJ ls st M nc ns h
  subst hn
  unfold s_callIA at h
  obtain ⟨av, r, rfl, hlen, h⟩ := e_pop_inv h
  rw [List.append_nil] at h
  intro H locs lsM hl ok le vl vs hS hF
  obtain ⟨va0, vr⟩ := e_all_app vs
  have va := e_all_rev va0
  split at h
  · rename_i hrm
    have hRR := X.2.2.2.2.2.2.2.1
    split at h
    · rename_i q av' hz
      obtain ⟨hrm2, h⟩ := h
      have cn := e_callB X hc hlk hR
      rw [hret] at cn
      exact e_after X hh hct hJ hl le vl vr hF (vx_runI (b := q.2) (As := av'.map e_tv) (e_fix X) (h ok va) ⟨cn, hnm, e_wd0 X.2.2.2.2.2.2.1 hin⟩ (e_pre X hS hF (.ref q.2 :: av'.map e_tv)) rfl (by simpa using hlen) (by rw [← X.2.2.2.1]; exact hl.1.trans X.2.2.2.1.symm) (by simp [e_tv]) (lv_room (e_wt8 hrm)) hd ⟨by rw [hRR]; exact hrm2.1, by rw [hRR]; exact hrm2.2⟩)
    · exact h.elim
  · exact h.elim
/-- a text's method: of a constant or of an object -/
def s_callE (l : Launch) (g : EG) (σ τ : SG) : ES := fun ret _ nx ls st M nc ns => e_pop (gnp τ + 1) [] st (fun av r => match Nat.ble (e_wt r) 8 with
  | true => match av with
    | .inr (.inr (.inr (.inr q))) :: _ => (q.1 = 56 ∨ (200 ≤ q.1 ∧ q.1 ≤ 234)) ∧ (nc + gmc τ ≤ gmc σ ∧ ns + gms τ ≤ gms σ) ∧ Ct l g τ av M (e_aft τ ret nx ls r nc ns)
    | _ => False
  | false => False)
theorem r_callE (X : Cx p l g σ R s m args meth c own) (hh : ghh σ = []) {τ : SG} {index : Nat} (hd : decode (gcc σ) pc = .ok (.invokevirtual index, 3)) (hC : (gy τ).cls = "java/lang/String") (hlk : Cond.methodLink own index (gy τ) ∈ e_good) (hin : Cond.instanceMethod (gy τ) ∈ e_good) (hse : Cond.selects (gy τ).cls (gy τ) (gy τ) ∈ e_good) (hc : e_cs τ) (hct : gct τ = false) (hR : e_fits τ σ) (hn : pc + 3 = np) : RowOk p l e g σ R s m args below meth c ex M0 Q pc np (s_callE l g σ τ) := by
  intro J hJ ls st M nc ns h
  subst hn
  unfold s_callE at h
  obtain ⟨av, r, rfl, hlen, h⟩ := e_pop_inv h
  rw [List.append_nil] at h
  intro H locs lsM hl ok le vl vs hS hF
  obtain ⟨va0, vr⟩ := e_all_app vs
  have va := e_all_rev va0
  split at h
  · rename_i hrm
    have hRR := X.2.2.2.2.2.2.2.1
    split at h
    · rename_i q av' hz
      obtain ⟨hq, hrm2, h⟩ := h
      have pv : PreV s H (gy τ).cls q.2 (e_Pc g (.ref q.2 :: av'.map e_tv) M) (av'.map e_tv) := by
        rw [hC]
        rcases hq with hq | hq
        · exact e_preV X (ci := 11) (by decide) rfl (by rw [hq]; rfl) va.1 hS hF (av'.map e_tv)
        · exact e_preT X (q := q) ok hq va.1 hS hF (av'.map e_tv)
      exact e_after X hh hct hJ hl le vl vr hF (vx_runV (b := q.2) (As := av'.map e_tv) (e_fix X) (h ok va) ⟨e_callB X hc hlk hR, e_wd0 X.2.2.2.2.2.2.1 hin, e_wd0 X.2.2.2.2.2.2.1 hse⟩ pv rfl (by simpa using hlen) (by rw [← X.2.2.2.1]; exact hl.1.trans X.2.2.2.1.symm) (by simp [e_tv]) (lv_room (e_wt8 hrm)) hd ⟨by rw [hRR]; exact hrm2.1, by rw [hRR]; exact hrm2.2⟩)
    · exact h.elim
  · exact h.elim
/-- a contract over values, null among them -/
def CtV (l : Launch) (g : EG) (σ : SG) (vs : List Value) (M : EM) (Q : EO → EM → Prop) : Prop :=
  e_ok M → vx_Met l (gy σ) (gws σ) (grm σ) (e_Pc g vs M) (e_Qc g none M Q) (e_XC g none M Q) (gmc σ) (gms σ) (eA g)
theorem CtV.mono {l : Launch} {g : EG} {σ : SG} {vs : List Value} {M : EM} {Q Q' : EO → EM → Prop} (h : CtV l g σ vs M Q) (hq : ∀ o M', Q o M' → Q' o M') : CtV l g σ vs M Q' := by
  intro hk p e ha hc hkk s m args below hf happ hp hK
  obtain ⟨n, o, h1, h2, h3, h4⟩ := h hk p e ha hc hkk s m args below hf happ hp hK
  refine ⟨n, o, h1, h2, h3, ?_⟩
  rcases h4 with ⟨⟨v, M', q1, q2, q3, q4, q5, q6, q7⟩, hL⟩ | ⟨q, ho, E, ce, L, ⟨M', q2, q3, q4, q5, q7⟩, hr⟩
  · exact Or.inl ⟨⟨v, M', q1, q2, q3, q4, q5, q6, hq _ _ q7⟩, hL⟩
  · exact Or.inr ⟨q, ho, E, ce, L, ⟨M', q2, q3, q4, q5, hq _ _ q7⟩, hr⟩
theorem sem_ofV {own : String} {prog : List (Nat × ES)} {vs : List Value} {ls0 : List (Option EV)} {M : EM} {Q : EO → EM → Prop} (hl0 : l.stackTraces = false) (hm : e_mtF σ own) (hp : e_okp l g σ own prog) (hlen : (lg_sl vs).length ≤ gml σ) (hls : ∀ q ∈ e_asc 0 ls0, q ∈ lv_args 0 vs) (hv : e_allL g M ls0)
    (body : ∀ K : Nat → EK, e_clo prog (e_ret σ Q) K → e_wk K → K 0 ls0 [] M 0 0) : CtV l g σ vs M Q := by
  intro ok
  obtain ⟨hcls, hpl, hhh⟩ := hm
  have hwd : gwd σ = Cond.code (gy σ) (gcc σ) (gml σ) (grt σ) := by unfold gwd; rw [hhh]
  refine vx_ofWF (cc := gcc σ) (maxL := gml σ) (ret := grt σ) (ws' := []) hpl (by unfold gws; rw [hwd]) ?_
  intro p e s m args below meth c s₁ B hml hex hPc
  obtain ⟨rfl, hG, hS⟩ := hPc
  have X : Cx p l g σ (headSpec (gws σ) (grm σ)).room s m (vs.toArray) meth c own := by
    refine ⟨B.exec, B.bytes, B.returns, hml, ?_, B.notSynchronized, hG, rfl, hl0, (name_of_methodNamed B.named B.method).1, ?_⟩
    · rw [← hcls]; exact findClass_of_methodNamed B.named
    · rw [hhh]
      cases ht : c.exceptionTable.toList with
      | nil => rfl
      | cons x r => exact (hex x (by rw [ht]; exact List.mem_cons_self)).elim
  have hb := body (fun t ls st M' nc ns => Run p l e g σ (headSpec (gws σ) (grm σ)).room s m (vs.toArray) below meth c none M Q t ls st M' nc ns) (e_each_mono (fun pc np f h => h) (hp p e _ s m _ below meth c none M Q X)) ?_
  · have hl := lv_entry vs (n := gml σ) hlen
    rw [lg_entry_eq]
    exact hb s.heap [] _ (e_has_sub hl hls) ok e_le.rf hv trivial hS va_S.rf
  · intro t ls ls' st M' nc ns hsub h H locs lsM hl ok le vl vs hS hF
    exact h H locs lsM (e_has_sub hl (fun q hq => e_asc_sub hsub hq)) ok le (e_allL_sub hsub vl) vs hS hF
/-- new String(builder, null): null is pushed, the constructor is called -/
def s_initN (l : Launch) (g : EG) (σ τ : SG) : ES := fun ret _ nx ls st M nc ns => match st with
  | .inr (.inr (.inr (.inr b))) :: .inr (.inr (.inr (.inr a))) :: r => match Nat.ble (e_wt r) 8 with
    | true => (nc + gmc τ ≤ gmc σ ∧ ns + gms τ ≤ gms σ) ∧ CtV l g τ [.ref a.2, .ref b.2, .null] M (e_aft τ ret nx ls r nc ns)
    | false => False
  | _ => False
theorem r_initN (X : Cx p l g σ R s m args meth c own) (hh : ghh σ = []) {τ : SG} {index : Nat} (hd0 : decode (gcc σ) pc = .ok (.aconst_null, 1)) (hd : decode (gcc σ) (pc + 1) = .ok (.invokespecial index, 3)) (hlk : Cond.methodLink own index (gy τ) ∈ e_good) (hin : Cond.instanceMethod (gy τ) ∈ e_good) (hc : e_cs τ) (hct : gct τ = false) (hret : grt τ = none) (hnm : (gy τ).name = "<init>") (hnp : gnp τ = 2) (hR : e_fits τ σ) (hn : pc + 4 = np) : RowOk p l e g σ R s m args below meth c ex M0 Q pc np (s_initN l g σ τ) := by
  intro J hJ ls st M nc ns h
  subst hn
  unfold s_initN at h
  split at h
  · rename_i b a r
    split at h
    · rename_i hrm
      obtain ⟨hrm2, h⟩ := h
      intro H locs lsM hl ok le vl vs hS hF
      have hRR := X.2.2.2.2.2.2.2.1
      have cn := e_callB X hc hlk hR
      rw [hret] at cn
      refine lv_null X.1 X.2.1 hd0 ?_
      have hr := vx_runI (e := e) (below := below) (meth := meth) (locs := locs) (rest := r.map e_tv) (g := F0 m (pc + 1) lsM (.null :: .ref b.2 :: .ref a.2 :: r.map e_tv)) (b := a.2) (As := [.ref b.2, .null]) (e_fix X) (h ok) ⟨cn, hnm, e_wd0 X.2.2.2.2.2.2.1 hin⟩ (e_pre X hS hF [.ref a.2, .ref b.2, .null]) rfl (by rw [hnp]; rfl) (by rw [← X.2.2.2.1]; exact hl.1.trans X.2.2.2.1.symm) rfl (lv_room (e_wt8 hrm)) hd ⟨by rw [hRR]; exact hrm2.1, by rw [hRR]; exact hrm2.2⟩
      refine e_run X hF hr (fun v M' H1 locs1 hq ok' le' hS' hF' hv' => ?_) (fun E M' H1 locs1 q9 ce hq ok' le' hS' hF' h1 h2 h3 => e_out X hh hq ok' (le.tr le') hS' hF' h1 h2 h3)
      have vr : e_all g M r := vs.2.2
      cases v with
      | none => exact hJ _ _ _ _ _ _ hq H1 locs1 lsM hl ok' (le.tr le') (vl.le le') (vr.le le') hS' hF'
      | some v => exact hJ _ _ _ _ _ _ hq H1 locs1 lsM hl ok' (le.tr le') (vl.le le') ⟨hv', vr.le le'⟩ hS' hF'
    · exact h.elim
  · exact h.elim
/-- a final int field, in its constructor -/
theorem r_putIF (X : Cx p l g σ R s m args meth c own) {index ci k : Nat} (hd : decode (gcc σ) pc = .ok (.putfield index, 3)) (hci : ci < 12) (hk : k < e_cN ci) (hty : e_isI (e_cT ci k) = true) (hfin : (e_cF ci k).2.2.2 = true ∧ (gy σ).name = "<init>" ∧ (e_cF ci k).1 = own) (hlk : Cond.fieldLink own index (e_cF ci k).1 (e_cF ci k).2.1 (e_cF ci k).2.2.1 ∈ e_good) (hn : pc + 3 = np) : RowOk p l e g σ R s m args below meth c ex M0 Q pc np (s_putI ci k) := by
  intro J hJ ls st M nc ns h
  subst hn
  unfold s_putI at h
  split at h
  · split at h
    · rename_i v q r x hq
      intro H locs lsM hl ok le vl vs hS hF
      obtain ⟨hm, ht⟩ := e_vok_in vs.2.1 (e_isO_kd hq)
      obtain ⟨f1, f2⟩ := e_fit_n h.1
      have hini : (e_cF ci k).2.2.2 = false ∨ ((e_cF ci k).2.2.2 = true ∧ meth.name = "<init>" ∧ (e_cF ci k).1 = own) := by
        rw [X.2.2.2.2.2.2.2.2.2.1]; exact Or.inr hfin
      refine m_put X hd hci hk hini hlk hm ht (e_isO_kd hq) (v := .int v) (M' := sI M q.2 k v) f1 f2 rfl rfl (fun b hb => e_ent_sI hb) ?_ hS hF (fun H1 locs1 hS1 hF1 => hJ _ _ _ _ _ _ h.2 H1 locs1 lsM hl (e_ok_sI ok) le (e_allL.le (M := M) (M' := sI M q.2 k v) (fun _ h9 _ => ⟨h9, rfl⟩) vl) (e_all.le (M := M) (M' := sI M q.2 k v) (fun _ h9 _ => ⟨h9, rfl⟩) vs.2.2) hS1 hF1)
      rw [e_ent_o (M := sI M q.2 k v) (t := q.1) ht (e_isO_kd hq)]
      congr 2
      refine (e_lset (fun j hj hne => ?_) ?_).symm
      · unfold e_fv
        have : mI (sI M q.2 k v) q.2 j = mI M q.2 j := by simp [mI, sI, e_up, hne]
        cases e_cT ci j <;> first | rfl | rw [this]
      · rw [e_fv_I hty]; simp [mI, sI, e_up]
    · exact h.elim
  · exact h.elim
def s_mminP (σ : SG) : ES := fun _ _ nx ls st M nc ns => match st with
  | .inl y :: .inl x :: r => match Nat.ble (e_wt r) 8 with
    | true => (nc ≤ gmc σ ∧ ns ≤ gms σ) ∧ nx ls (.inl (if y < x then y else x) :: r) M nc ns
    | false => False
  | _ => False
theorem r_mminP (X : Cx p l g σ R s m args meth c own) {index : Nat} (hd : decode (gcc σ) pc = .ok (.invokestatic index, 3)) (hlk : Cond.methodLink own index Lib.Math.min.name ∈ e_good) (hst : Cond.static Lib.Math.min.name ∈ e_good) (hin : Cond.initialized "java/lang/Math" ∈ e_good) (hco : Cond.code Lib.Math.min.name Lib.Math.min.code 2 (some .int) ∈ e_good) (hR : 1 ≤ gfr σ ∧ 22 ≤ glo σ) (hn : pc + 3 = np) : RowOk p l e g σ R s m args below meth c ex M0 Q pc np (s_mminP σ) := by
  intro J hJ ls st M nc ns h
  unfold s_mminP at h
  split at h
  · split at h
    · rename_i y x r z hb
      refine r_mmin X hd hlk hst hin hco hR hn J hJ ls _ M nc ns ?_
      show (match Nat.ble (e_wt r) 8 && (Nat.ble nc (gmc σ) && Nat.ble ns (gms σ)) with
        | true => J np ls (.inl (if y < x then y else x) :: r) M nc ns
        | false => False)
      rw [hb, Nat.ble_eq_true_of_le h.1.1, Nat.ble_eq_true_of_le h.1.2]
      exact h.2
    · exact h.elim
  · exact h.elim
end RX
