/-! THE ENGINE, 9a: texts: what the JDK's own methods do with them. -/
section RT
variable {p : Program} {l : Launch} {e : Env} {g : EG} {σ : SG} {R : Room} {s : State} {m : MethodId} {args : Array Value} {below : List Frame} {meth : Method} {c : Code} {ex : Option Nat} {M0 : EM} {Q : EO → EM → Prop} {own : String} {pc np : Nat}
/-- a place that isn't reached -/
def s_no : ES := fun _ _ _ _ _ _ _ _ => False
theorem r_no (X : Cx p l g σ R s m args meth c own) : RowOk p l e g σ R s m args below meth c ex M0 Q pc np s_no := fun J hJ ls st M nc ns h => h.elim
theorem e_ro_t {t a : Nat} {M : EM} (ok : e_ok M) (h : e_vok g M (.inr (.inr (.inr (.inr (t, a)))))) (h1 : 200 ≤ t ∧ t ≤ 234) : a = gS g (t - 200) := by
  have kd : e_kd t = none := e_kd_n t h1.1 (by omega)
  rcases h with ⟨h2, h3⟩ | h2
  · exfalso
    have := (ok _ h2).1
    rw [h3] at this
    exact this kd
  · rcases h2 with ⟨h3, -⟩ | ⟨-, -, h3⟩ | ⟨h3, -, -⟩ | h3
    · have h3' : t = 60 := h3
      omega
    · exact h3
    · have h3' : 300 ≤ t := h3
      omega
    · have h3' : t = 399 := h3
      omega
theorem e_ro_b {t a : Nat} {M : EM} (ok : e_ok M) (h : e_vok g M (.inr (.inr (.inr (.inr (t, a)))))) (h1 : 300 ≤ t ∧ t ≤ 334) : a = gB g (t - 300) := by
  have kd : e_kd t = none := e_kd_n t (by omega) (by omega)
  rcases h with ⟨h2, h3⟩ | h2
  · exfalso
    have := (ok _ h2).1
    rw [h3] at this
    exact this kd
  · rcases h2 with ⟨h3, -⟩ | ⟨-, h3, -⟩ | ⟨-, -, h3⟩ | h3
    · have h3' : t = 60 := h3
      omega
    · have h3' : t < 261 := h3
      omega
    · exact h3
    · have h3' : t = 399 := h3
      omega
def s_gcs : ES := fun _ _ nx ls st M nc ns => nx ls (.inl 1 :: st) M nc ns
theorem r_gcs (X : Cx p l g σ R s m args meth c own) {index : Nat} (hd : decode (gcc σ) pc = .ok (.getstatic index, 3)) (hlk : Cond.fieldLink own index "java/lang/String" "COMPACT_STRINGS" "Z" ∈ e_good) (hn : pc + 3 = np) : RowOk p l e g σ R s m args below meth c ex M0 Q pc np s_gcs := by
  intro J hJ ls st M nc ns h
  subst hn
  intro H locs lsM hl ok le vl vs hS hF
  have hG := X.2.2.2.2.2.2.1
  exact va_gets X.1 X.2.1 hG.2.2.2.2.2.2.2.2.2.2.2.2.2.1 hF X.2.2.2.2.1 (e_wd0 hG hlk) (fun _ h9 => h9) hd (hJ _ _ _ _ _ _ h H locs lsM hl ok le vl ⟨trivial, vs⟩ hS hF)
/-- the coder of a text; its bytes -/
def s_tcod : ES := fun _ _ nx ls st M nc ns => match st with
  | .inr (.inr (.inr (.inr q))) :: r => (200 ≤ q.1 ∧ q.1 ≤ 234) ∧ nx ls (.inl 0 :: r) M nc ns
  | _ => False
theorem r_tcod (X : Cx p l g σ R s m args meth c own) {index : Nat} (hd : decode (gcc σ) pc = .ok (.getfield index, 3)) (hlk : Cond.fieldLink own index "java/lang/String" "coder" "B" ∈ e_good) (hn : pc + 3 = np) : RowOk p l e g σ R s m args below meth c ex M0 Q pc np s_tcod := by
  intro J hJ ls st M nc ns h
  subst hn
  unfold s_tcod at h
  split at h
  · rename_i q r
    obtain ⟨hq, h⟩ := h
    intro H locs lsM hl ok le vl vs hS hF
    have hG := X.2.2.2.2.2.2.1
    have ha := e_ro_t ok vs.1 hq
    have hT := (hG.2.2.2.2.2.2.2.2.2.2.1.1 (q.1 - 200) (by omega)).2.1
    have row := vk_getf (p := p) (l := l) (e := e) (R := R) (m := m) (meth := meth) (locs := locs) (args := args) (below := below) (cells := nc) (slots := ns) (Q := vx_MQ below (e_Qc g ex M0 Q) (e_XC g ex M0 Q) args s (gmc σ) (gms σ) (eA g)) (ls := lsM) (rest := r.map e_tv) X.1 X.2.1 hT hF X.2.2.2.2.1 (e_wd0 hG hlk) (fun _ h9 => h9) hd (hJ _ _ _ _ _ _ h H locs lsM hl ok le vl ⟨trivial, vs.2⟩ hS hF)
    rw [← ha] at row
    exact row
  · exact h.elim
theorem e_vb (g : EG) (M : EM) (k : Nat) (h : 200 ≤ k) (h' : k ≤ 234) : e_vok g M (.inr (.inr (.inr (.inr (k + 100, gB g (k - 200)))))) := by
  obtain ⟨j, rfl⟩ : ∃ j, k = 200 + j := ⟨k - 200, by omega⟩
  have e1 : 200 + j - 200 = j := by omega
  have e2 : 200 + j + 100 = 300 + j := by omega
  rw [e1, e2]
  refine Or.inr (Or.inr (Or.inr (Or.inl ⟨?_, ?_, ?_⟩)))
  · exact Nat.le_add_right _ _
  · show 300 + j < 361
    omega
  · show gB g j = gB g (300 + j - 300)
    exact congrArg (gB g) (by omega)
def s_tval : ES := fun _ _ nx ls st M nc ns => match st with
  | .inr (.inr (.inr (.inr q))) :: r => (200 ≤ q.1 ∧ q.1 ≤ 234) ∧ ∀ a, nx ls (.inr (.inr (.inr (.inr (q.1 + 100, a)))) :: r) M nc ns
  | _ => False
theorem r_tval (X : Cx p l g σ R s m args meth c own) {index : Nat} (hd : decode (gcc σ) pc = .ok (.getfield index, 3)) (hlk : Cond.fieldLink own index "java/lang/String" "value" "[B" ∈ e_good) (hn : pc + 3 = np) : RowOk p l e g σ R s m args below meth c ex M0 Q pc np s_tval := by
  intro J hJ ls st M nc ns h
  subst hn
  unfold s_tval at h
  split at h
  · rename_i q r
    obtain ⟨hq, h⟩ := h
    intro H locs lsM hl ok le vl vs hS hF
    have hG := X.2.2.2.2.2.2.1
    have ha := e_ro_t ok vs.1 hq
    have hT := (hG.2.2.2.2.2.2.2.2.2.2.1.1 (q.1 - 200) (by omega)).2.2.1
    have h9 : e_vok g M (.inr (.inr (.inr (.inr (q.1 + 100, gB g (q.1 - 200)))))) := e_vb g M q.1 hq.1 hq.2
    have row := vk_getf (p := p) (l := l) (e := e) (R := R) (m := m) (meth := meth) (locs := locs) (args := args) (below := below) (cells := nc) (slots := ns) (Q := vx_MQ below (e_Qc g ex M0 Q) (e_XC g ex M0 Q) args s (gmc σ) (gms σ) (eA g)) (ls := lsM) (rest := r.map e_tv) X.1 X.2.1 hT hF X.2.2.2.2.1 (e_wd0 hG hlk) (fun _ h9 => h9) hd (hJ _ _ _ _ _ _ (h (gB g (q.1 - 200))) H locs lsM hl ok le vl ⟨h9, vs.2⟩ hS hF)
    rw [← ha] at row
    exact row
  · exact h.elim
def s_tlen : ES := fun _ _ nx ls st M nc ns => match st with
  | .inr (.inr (.inr (.inr q))) :: r => (300 ≤ q.1 ∧ q.1 ≤ 334) ∧ nx ls (.inl (nI (e_len.getD (q.1 - 300) 0)) :: r) M nc ns
  | _ => False
theorem r_tlen (X : Cx p l g σ R s m args meth c own) (hd : decode (gcc σ) pc = .ok (.arraylength, 1)) (hn : pc + 1 = np) : RowOk p l e g σ R s m args below meth c ex M0 Q pc np s_tlen := by
  intro J hJ ls st M nc ns h
  subst hn
  unfold s_tlen at h
  split at h
  · rename_i q r
    obtain ⟨hq, h⟩ := h
    intro H locs lsM hl ok le vl vs hS hF
    have hG := X.2.2.2.2.2.2.1
    have ha := e_ro_b ok vs.1 hq
    have hT := (hG.2.2.2.2.2.2.2.2.2.2.1.1 (q.1 - 300) (by omega)).2.2.2
    have row := va_tlen (p := p) (l := l) (e := e) (R := R) (m := m) (meth := meth) (locs := locs) (args := args) (below := below) (cells := nc) (slots := ns) (Q := vx_MQ below (e_Qc g ex M0 Q) (e_XC g ex M0 Q) args s (gmc σ) (gms σ) (eA g)) (ls := lsM) (rest := r.map e_tv) X.1 X.2.1 hT hF (v := nI (e_len.getD (q.1 - 300) 0)) rfl hd (hJ _ _ _ _ _ _ h H locs lsM hl ok le vl ⟨trivial, vs.2⟩ hS hF)
    rw [← ha] at row
    exact row
  · exact h.elim
def s_tbald : ES := fun _ _ nx ls st M nc ns => match st with
  | .inl i :: .inr (.inr (.inr (.inr q))) :: r => ((300 ≤ q.1 ∧ q.1 ≤ 334) ∧ vp_in i (e_len.getD (q.1 - 300) 0)) ∧ nx ls (.inl ((e_byt.getD (q.1 - 300) []).getD i.toNatClampNeg 0) :: r) M nc ns
  | _ => False
theorem r_tbald (X : Cx p l g σ R s m args meth c own) (hd : decode (gcc σ) pc = .ok (.baload, 1)) (hn : pc + 1 = np) : RowOk p l e g σ R s m args below meth c ex M0 Q pc np s_tbald := by
  intro J hJ ls st M nc ns h
  subst hn
  unfold s_tbald at h
  split at h
  · rename_i i q r
    obtain ⟨⟨hq, hin⟩, h⟩ := h
    intro H locs lsM hl ok le vl vs hS hF
    have hG := X.2.2.2.2.2.2.1
    have ha := e_ro_b ok vs.2.1 hq
    have hT := (hG.2.2.2.2.2.2.2.2.2.2.1.1 (q.1 - 300) (by omega)).2.2.2
    have row := va_tb (p := p) (l := l) (e := e) (R := R) (m := m) (meth := meth) (locs := locs) (args := args) (below := below) (cells := nc) (slots := ns) (Q := vx_MQ below (e_Qc g ex M0 Q) (e_XC g ex M0 Q) args s (gmc σ) (gms σ) (eA g)) (ls := lsM) (rest := r.map e_tv) X.1 X.2.1 hT hF hin rfl hd (hJ _ _ _ _ _ _ h H locs lsM hl ok le vl ⟨trivial, vs.2.2⟩ hS hF)
    rw [← ha] at row
    exact row
  · exact h.elim
theorem r_i2c (X : Cx p l g σ R s m args meth c own) (hd : decode (gcc σ) pc = .ok (.i2c, 1)) (hn : pc + 1 = np) : RowOk p l e g σ R s m args below meth c ex M0 Q pc np (s_i1 (fun x => (x.toUInt32 % 65536).toInt32)) := by
  intro J hJ ls st M nc ns h
  subst hn
  unfold s_i1 at h
  split at h
  · intro H locs lsM hl ok le vl vs hS hF
    exact lv_i2c X.1 X.2.1 hd rfl (hJ _ _ _ _ _ _ h H locs lsM hl ok le vl ⟨trivial, vs.2⟩ hS hF)
  · exact h.elim
/-- an answer of a narrow type -/
def s_iretn (ty : FieldType) : ES := fun ret _ _ ls st M nc ns => match st with
  | .inl v :: [] => narrow ty (.int v) = .int v ∧ ret (.inl (some (.inl v))) M nc ns
  | _ => False
theorem r_iretn (X : Cx p l g σ R s m args meth c own) {ty : FieldType} (hd : decode (gcc σ) pc = .ok (.ireturn, 1)) (hr : grt σ = some ty) : RowOk p l e g σ R s m args below meth c ex M0 Q pc np (s_iretn ty) := by
  intro J hJ ls st M nc ns h
  unfold s_iretn at h
  split at h
  · intro H locs lsM hl ok le vl vs hS hF
    refine W.widen (h.2).1 (h.2).2.1 (vx_ret ?_)
    exact W.zret X.1 X.2.1 (X.2.2.1.trans hr) h.1 (fun t ht hW => ⟨some (.inl _), M, rfl, ok, le, by rw [ht]; exact hS, hF.F ht, trivial, (h.2).2.2⟩) hF.2.2 hd X.2.2.2.2.2.1
  · exact h.elim
/-- a method of a text is called -/
def s_callT (l : Launch) (g : EG) (σ τ : SG) : ES := fun ret _ nx ls st M nc ns => e_pop (gnp τ + 1) [] st (fun av r => match e_rm τ σ r nc ns with
  | true => match av with
    | .inr (.inr (.inr (.inr q))) :: _ => (200 ≤ q.1 ∧ q.1 ≤ 234) ∧ Ct l g τ av M (e_aft τ ret nx ls r nc ns)
    | _ => False
  | false => False)
theorem e_preT (X : Cx p l g σ R s m args meth c own) {M : EM} {H : Heap} {locs : List Loc} {q : Nat × Nat} (ok : e_ok M) (hq : 200 ≤ q.1 ∧ q.1 ≤ 234) (hv : e_vok g M (.inr (.inr (.inr (.inr q))))) (hS : e_St g M H) (hF : va_S (eA g) s.heap H locs) (av : List Value) : PreV s H "java/lang/String" q.2 (e_Pc g (.ref q.2 :: av) M) av := by
  obtain ⟨h1, h2⟩ := e_pre X hS hF (.ref q.2 :: av)
  refine ⟨h1, ?_, h2⟩
  have hG := X.2.2.2.2.2.2.1
  rw [e_ro_t (a := q.2) ok hv hq]
  exact vk_recv hG.2.2.2.2.2.2.2.2.2.2.1 (by omega) hF
theorem r_callT (X : Cx p l g σ R s m args meth c own) (hh : ghh σ = []) {τ : SG} {index : Nat} (hd : decode (gcc σ) pc = .ok (.invokevirtual index, 3)) (hC : (gy τ).cls = "java/lang/String") (hlk : Cond.methodLink own index (gy τ) ∈ e_good) (hin : Cond.instanceMethod (gy τ) ∈ e_good) (hse : Cond.selects (gy τ).cls (gy τ) (gy τ) ∈ e_good) (hc : e_cs τ) (hct : gct τ = false) (hR : e_fits τ σ) (hn : pc + 3 = np) : RowOk p l e g σ R s m args below meth c ex M0 Q pc np (s_callT l g σ τ) := by
  intro J hJ ls st M nc ns h
  subst hn
  unfold s_callT at h
  obtain ⟨av, r, rfl, hlen, h⟩ := e_pop_inv h
  rw [List.append_nil] at h
  intro H locs lsM hl ok le vl vs hS hF
  obtain ⟨va0, vr⟩ := e_all_app vs
  have va := e_all_rev va0
  split at h
  · rename_i hrm
    obtain ⟨w1, w2, w3⟩ := e_rm_t hrm
    have hR' := X.2.2.2.2.2.2.2.1
    split at h
    · rename_i q av' hz
      obtain ⟨hq, h⟩ := h
      have pv := e_preT X (q := q) ok hq va.1 hS hF (av'.map e_tv)
      rw [← hC] at pv
      exact e_after X hh hct hJ hl le vl vr hF (vx_runV (b := q.2) (As := av'.map e_tv) (e_fix X) (h ok va) ⟨e_callB X hc hlk hR, e_wd0 X.2.2.2.2.2.2.1 hin, e_wd0 X.2.2.2.2.2.2.1 hse⟩ pv rfl (by simpa using hlen) (by rw [← X.2.2.2.1]; exact hl.1.trans X.2.2.2.1.symm) (by simp [e_tv]) (lv_room w1) hd ⟨by rw [hR']; exact w2, by rw [hR']; exact w3⟩)
    · exact h.elim
  · exact h.elim
end RT
/-- as vx_ofW, of a method that has no row among the natives -/
theorem vx_ofWF {l : Launch} {y : MethodName} {ws ws' : List Cond} {rm : Room} {Pc : Array Value → State → Prop} {Qc : Array Value → State → Outcome → State → Prop} {XC : String → State → State → Prop} {mc ms : Nat} {free : Addr → Prop} {cc : ByteArray} {maxL : Nat} {ret : Option FieldType}
    (hy : plainFor y = true) (hw : ws = Cond.code y cc maxL ret :: ws')
    (body : ∀ p e s m args below meth c s₁, BodyLoose p l y (headSpec ws rm) cc maxL ret e s m args below meth c s₁ → c.maxLocals = maxL → (∀ x ∈ c.exceptionTable.toList, False) → Pc args s →
      W p l e (headSpec ws rm).room s m args below meth c s.heap [] 0 0 (vx_MQ below Qc XC args s mc ms free) (entryFrame m args maxL)) : vx_Met l y ws rm Pc Qc XC mc ms free := by
  refine MetFree.of_bodySF (code := cc) (maxLocals := maxL) (ret := ret) hy ?_ ?_
  · intro args s m h hn
    obtain ⟨meth, c, h1, h2, h3, h4, h5, h6, -, -⟩ := Cond.code_spec hn (atoms_spec (ws := ws) h _ (by rw [hw]; exact List.mem_cons_self))
    exact ⟨meth, c, h1, h2, h3, h4, h5, h6⟩
  · intro p e s m args below meth c s₁ B hml hP _
    have hh0 : s₁.heap = s.heap := by rw [B.state]; rfl
    have ht : ∀ x ∈ c.exceptionTable.toList, False := by
      obtain ⟨meth9, c9, h1, h2, -, -, -, -, h7, -⟩ := Cond.code_spec B.named (atoms_spec (ws := ws) B.pre _ (by rw [hw]; exact List.mem_cons_self))
      cases Option.some.inj (h1.symm.trans B.method)
      cases Option.some.inj (h2.symm.trans (Stand.of_body B).code)
      intro x hx
      rw [Array.isEmpty_iff.mp h7] at hx
      cases hx
    obtain ⟨t, a1, o, b1, b2, b3⟩ := body p e s m args below meth c s₁ B hml ht hP s₁ hh0 (Stand.of_body B)
    exact ⟨t, o, a1, b1, b2, b3⟩
def e_mtF (σ : SG) (own : String) : Prop := (gy σ).cls = own ∧ plainFor (gy σ) = true ∧ ghh σ = []
theorem sem_ofF {l : Launch} {g : EG} {σ : SG} {own : String} {prog : List (Nat × ES)} {av : List EV} {M : EM} {Q : EO → EM → Prop} (hl0 : l.stackTraces = false) (hm : e_mtF σ own) (hp : e_okp l g σ own prog) (hw : Nat.ble (e_wt av) (gml σ) = true)
    (body : ∀ K : Nat → EK, e_clo prog (e_ret σ Q) K → e_wk K → K 0 (e_l0 (gml σ) av) [] M 0 0) : Ct l g σ av M Q := by
  intro ok hv
  obtain ⟨hcls, hpl, hhh⟩ := hm
  have hwd : gwd σ = Cond.code (gy σ) (gcc σ) (gml σ) (grt σ) := by unfold gwd; rw [hhh]
  refine vx_ofWF (cc := gcc σ) (maxL := gml σ) (ret := grt σ) (ws' := []) hpl (by unfold gws; rw [hwd]) ?_
  intro p e s m args below meth c s₁ B hml hex hPc
  obtain ⟨rfl, hG, hS⟩ := hPc
  have X : Cx p l g σ (headSpec (gws σ) (grm σ)).room s m ((av.map e_tv).toArray) meth c own := by
    refine ⟨B.exec, B.bytes, B.returns, hml, ?_, B.notSynchronized, hG, rfl, hl0, (name_of_methodNamed B.named B.method).1, ?_⟩
    · rw [← hcls]; exact findClass_of_methodNamed B.named
    · rw [hhh]
      cases ht : c.exceptionTable.toList with
      | nil => rfl
      | cons x r => exact (hex x (by rw [ht]; exact List.mem_cons_self)).elim
  have hb := body (fun t ls st M' nc ns => Run p l e g σ (headSpec (gws σ) (grm σ)).room s m ((av.map e_tv).toArray) below meth c (e_ex σ av) M Q t ls st M' nc ns) (e_each_mono (fun pc np f h => h) (hp p e _ s m _ below meth c (e_ex σ av) M Q X)) ?_
  · have hlen : (lg_sl (av.map e_tv)).length ≤ gml σ := Nat.le_trans e_sl_le (Nat.le_of_ble_eq_true hw)
    have hl := lv_entry (av.map e_tv) (n := gml σ) hlen
    rw [lg_entry_eq]
    exact hb s.heap [] _ (e_has_sub hl (fun q hq => e_l0_in hq)) ok e_le.rf (e_l0_all hv) trivial hS va_S.rf
  · intro t ls ls' st M' nc ns hsub h H locs lsM hl ok le vl vs hS hF
    exact h H locs lsM (e_has_sub hl (fun q hq => e_asc_sub hsub hq)) ok le (e_allL_sub hsub vl) vs hS hF
