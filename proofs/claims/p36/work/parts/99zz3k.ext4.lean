/-! THE ENGINE, 15: methods with handlers; calls of them. -/
theorem sem_ofH {l : Launch} {g : EG} {σ : SG} {own : String} {prog : List (Nat × ES)} {av : List EV} {M : EM} {Q : EO → EM → Prop} (hl0 : l.stackTraces = false) (hcls : (gy σ).cls = own) (hpl : plainName (gy σ).cls = true) (hwd : gwd σ = Cond.codeWith (gy σ) (gcc σ) (gml σ) (grt σ) (ghh σ)) (hp : e_okp l g σ own prog) (hw : Nat.ble (e_wt av) (gml σ) = true)
    (body : ∀ K : Nat → EK, e_clo prog (e_ret σ Q) K → e_wk K → K 0 (e_l0 (gml σ) av) [] M 0 0) : Ct l g σ av M Q := by
  intro ok hv
  refine vx_ofWH (cc := gcc σ) (maxL := gml σ) (ret := grt σ) (hh := ghh σ) (ws' := []) hpl (by unfold gws; rw [hwd]) ?_
  intro p e s m args below meth c s₁ B hml hPc
  obtain ⟨rfl, hG, hS⟩ := hPc
  have X : Cx p l g σ (headSpec (gws σ) (grm σ)).room s m ((av.map e_tv).toArray) meth c own := by
    refine ⟨B.exec, B.bytes, B.returns, hml, ?_, B.notSynchronized, hG, rfl, hl0, (name_of_methodNamed B.named B.method).1, ?_⟩
    · rw [← hcls]; exact findClass_of_methodNamed B.named
    · exact vx_table (x := gy σ) B (atoms_spec (ws := gws σ) B.pre _ (by unfold gws; rw [hwd]; exact List.mem_singleton.mpr rfl))
  have hb := body (fun t ls st M' nc ns => Run p l e g σ (headSpec (gws σ) (grm σ)).room s m ((av.map e_tv).toArray) below meth c (e_ex σ av) M Q t ls st M' nc ns) (e_each_mono (fun pc np f h => h) (hp p e _ s m _ below meth c (e_ex σ av) M Q X)) ?_
  · have hlen : (lg_sl (av.map e_tv)).length ≤ gml σ := Nat.le_trans e_sl_le (Nat.le_of_ble_eq_true hw)
    have hl := lv_entry (av.map e_tv) (n := gml σ) hlen
    rw [lg_entry_eq]
    exact hb s.heap [] _ (e_has_sub hl (fun q hq => e_l0_in hq)) ok e_le.rf (e_l0_all hv) trivial hS va_S.rf
  · intro t ls ls' st M' nc ns hsub h H locs lsM hl ok le vl vs hS hF
    exact h H locs lsM (e_has_sub hl (fun q hq => e_asc_sub hsub hq)) ok le (e_allL_sub hsub vl) vs hS hF
section RH
variable {p : Program} {l : Launch} {e : Env} {g : EG} {σ : SG} {R : Room} {s : State} {m : MethodId} {args : Array Value} {below : List Frame} {meth : Method} {c : Code} {ex : Option Nat} {M0 : EM} {Q : EO → EM → Prop} {own : String} {pc np : Nat}
def e_aftH (τ : SG) (hd : String → Option Nat) (J : Nat → EK) (nx : EK) (ls : List (Option EV)) (r : List EV) (nc ns : Nat) : EO → EM → Prop := fun o M' => match o with
  | .inl none => nx ls r M' (nc + gmc τ) (ns + gms τ)
  | .inl (some v) => nx ls (v :: r) M' (nc + gmc τ) (ns + gms τ)
  | .inr E => match hd E with
    | some h => ∀ a, J h ls [.inr (.inr (.inr (.inr (399, a))))] M' (nc + gmc τ) (ns + gms τ)
    | none => False
/-- a call under handlers -/
def s_callVH (l : Launch) (g : EG) (σ τ : SG) (ci : Nat) (hd : String → Option Nat) : ES := fun _ J nx ls st M nc ns => e_pop (gnp τ + 1) [] st (fun av r => match e_rm τ σ r nc ns with
  | true => match av with
    | .inr (.inr (.inr (.inr q))) :: _ => match e_isO q.1 ci with
      | true => Ct l g τ av M (e_aftH τ hd J nx ls r nc ns)
      | false => False
    | _ => False
  | false => False)
/-- a handler's row is the first that catches -/
def e_hdOk (own : String) (hh : List (Nat × Nat × Nat × Nat)) (pc : Nat) (hd : String → Option Nat) : Prop := ∀ E h, hd E = some h → Cond.castable E E ∈ e_cast ∧ ∃ pre x suf, tableOf hh = pre ++ x :: suf ∧ (∀ z ∈ pre, covers z pc = false ∨ (z.catchType ≠ 0 ∧ ∃ nm : String, Cond.classLink own z.catchType nm ∈ e_good ∧ (E, nm) ∈ e_nc)) ∧ covers x pc = true ∧ x.catchType ≠ 0 ∧ Cond.classLink own x.catchType E ∈ e_good ∧ x.handlerPc = h
theorem r_callVH (X : Cx p l g σ R s m args meth c own) {τ : SG} {index : Nat} {ci : Nat} {hd : String → Option Nat} (hdl : e_hdOk own (ghh σ) pc hd) (hdc : decode (gcc σ) pc = .ok (.invokevirtual index, 3)) (hci : ci < 12) (hC : (gy τ).cls = e_cR ci) (hlk : Cond.methodLink own index (gy τ) ∈ e_good) (hin : Cond.instanceMethod (gy τ) ∈ e_good) (hse : Cond.selects (gy τ).cls (gy τ) (gy τ) ∈ e_good) (hc : e_cs τ) (hct : gct τ = false) (hR : e_fits τ σ) (hn : pc + 3 = np) : RowOk p l e g σ R s m args below meth c ex M0 Q pc np (s_callVH l g σ τ ci hd) := by
  intro J hJ ls st M nc ns h
  subst hn
  unfold s_callVH at h
  obtain ⟨av, r, rfl, hlen, h⟩ := e_pop_inv h
  rw [List.append_nil] at h
  intro H locs lsM hl ok le vl vs hS hF
  obtain ⟨va0, vr⟩ := e_all_app vs
  have va := e_all_rev va0
  split at h
  · rename_i hrm
    obtain ⟨w1, w2, w3⟩ := e_rm_t hrm
    have hR' := X.2.2.2.2.2.2.2.1
    have hG := X.2.2.2.2.2.2.1
    have hN : e_NC s := hG.2.2.2.2.2.2.2.2.2.2.2.2.2.2.2.2.2.2
    split at h
    · rename_i q av' hz
      split at h
      · rename_i hq
        have hr := vx_runV (e := e) (below := below) (meth := meth) (locs := locs) (b := q.2) (As := av'.map e_tv) (e_fix X) (h ok va) ⟨e_callB X hc hlk hR, e_wd0 hG hin, e_wd0 hG hse⟩ (e_preV X hci hC (e_isO_kd hq) va.1 hS hF (av'.map e_tv)) rfl (by simpa using hlen) (by rw [← X.2.2.2.1]; exact hl.1.trans X.2.2.2.1.symm) (rest := r.map e_tv) (g := F0 m pc lsM (((Sum.inr (Sum.inr (Sum.inr (Sum.inr q))) :: av').reverse ++ r).map e_tv)) (by simp [e_tv]) (lv_room w1) hdc ⟨by rw [hR']; exact w2, by rw [hR']; exact w3⟩
        have he : e_ex τ (Sum.inr (Sum.inr (Sum.inr (Sum.inr q))) :: av') = none := by unfold e_ex; rw [hct]; rfl
        rw [he] at hr
        refine e_run X hF hr (fun v M' H1 locs1 hq ok' le' hS' hF' hv' => ?_) (fun E M' H1 locs1 q9 ce hq ok' le' hS' hF' h1 h2 h3 => ?_)
        · cases v with
          | none => exact hJ _ _ _ _ _ _ hq H1 locs1 lsM hl ok' (le.tr le') (vl.le le') (vr.le le') hS' hF'
          | some v => exact hJ _ _ _ _ _ _ hq H1 locs1 lsM hl ok' (le.tr le') (vl.le le') ⟨hv', vr.le le'⟩ hS' hF'
        · have hq' : (match hd E with
            | some h => ∀ a, J h ls [.inr (.inr (.inr (.inr (399, a))))] M' (nc + gmc τ) (ns + gms τ)
            | none => False) := hq
          cases hE : hd E with
          | none => rw [hE] at hq'; exact hq'.elim
          | some hp =>
            rw [hE] at hq'
            obtain ⟨k1, pre, x, suf, k2, k3, k4, k5, k6, k7⟩ := hdl E hp hE
            subst k7
            exact vx_catch (ce := ce) X.2.2.2.2.1 pre x suf (X.2.2.2.2.2.2.2.2.2.2.trans k2) (fun z hz => (k3 z hz).imp id (fun h9 => ⟨h9.1, h9.2.imp (fun nm h8 => ⟨e_wd0 hG h8.1, hN (E, nm) h8.2⟩)⟩)) k4 k5 (e_wd0 hG k6) (va_Nw.use rfl (hG.2.2.2.1 _ k1)) h1 h2 h3 (hJ _ _ _ _ _ _ (hq' q9) H1 locs1 lsM hl ok' (le.tr le') (vl.le le') ⟨Or.inr (Or.inr (Or.inr (Or.inr rfl))), trivial⟩ hS' hF')
      · exact h.elim
    · exact h.elim
  · exact h.elim
/-- what a method with handlers says to its callers -/
def e_csH (τ : SG) : Prop := gwd τ ∈ e_good ∧ Cond.initialized (gy τ).cls ∈ e_good ∧ ((gy τ).cls ≠ "java/lang/invoke/MethodHandle" ∧ (gy τ).cls ≠ "java/lang/invoke/VarHandle") ∧ (parseMethodDescriptor (gy τ).desc).map (fun d => d.parameters.length) = some (gnp τ) ∧ gwd τ = Cond.codeWith (gy τ) (gcc τ) (gml τ) (grt τ) (ghh τ)
theorem e_callH (X : Cx p l g σ R s m args meth c own) {τ : SG} {index : Nat} (hc : e_csH τ) (hlk : Cond.methodLink own index (gy τ) ∈ e_good) (hst : Cond.static (gy τ) ∈ e_good) (hR : e_fits τ σ) : vx_CSW R s args own index (gy τ) (gcc τ) (gml τ) (grt τ) (ghh τ) (gws τ) (grm τ) (gmc τ) (gms τ) (gnp τ) := by
  have hG := X.2.2.2.2.2.2.1
  have hRR := X.2.2.2.2.2.2.2.1
  refine ⟨⟨rfl, rfl, by rw [hRR]; exact hR.1, by rw [hRR]; exact hR.2, fun w hw a' U hW => ?_, by rw [← hc.2.2.2.2]; exact List.mem_singleton.mpr rfl⟩, by rw [← hc.2.2.2.2]; exact e_wd0 hG hc.1, e_wd0 hG hc.2.1, hc.2.2.1, fun sig h => ?_, e_wd0 hG hlk, e_wd0 hG hst⟩
  · rw [List.mem_singleton.mp hw]
    exact word_at hW (good_of_word (List.mem_filter.mp hc.1).2) (e_wd0 (args := #[]) hG hc.1)
  · have h2 := hc.2.2.2.1
    rw [h] at h2
    exact (Option.some.inj h2).symm
def e_aftN (τ : SG) (nx : EK) (ls : List (Option EV)) (r : List EV) (nc ns : Nat) : EO → EM → Prop := fun o M' => match o with
  | .inl none => nx ls r M' (nc + gmc τ) (ns + gms τ)
  | .inl (some v) => nx ls (v :: r) M' (nc + gmc τ) (ns + gms τ)
  | .inr _ => False
def s_callSH (l : Launch) (g : EG) (σ τ : SG) : ES := fun _ _ nx ls st M nc ns => e_pop (gnp τ) [] st (fun av r => match e_rm τ σ r nc ns with
  | true => Ct l g τ av M (e_aftN τ nx ls r nc ns)
  | false => False)
theorem r_callSH (X : Cx p l g σ R s m args meth c own) {τ : SG} {index : Nat} (hd : decode (gcc σ) pc = .ok (.invokestatic index, 3)) (hlk : Cond.methodLink own index (gy τ) ∈ e_good) (hst : Cond.static (gy τ) ∈ e_good) (hc : e_csH τ) (hct : gct τ = false) (hR : e_fits τ σ) (hn : pc + 3 = np) : RowOk p l e g σ R s m args below meth c ex M0 Q pc np (s_callSH l g σ τ) := by
  intro J hJ ls st M nc ns h
  subst hn
  unfold s_callSH at h
  obtain ⟨av, r, rfl, hlen, h⟩ := e_pop_inv h
  rw [List.append_nil] at h
  intro H locs lsM hl ok le vl vs hS hF
  obtain ⟨va0, vr⟩ := e_all_app vs
  have va := e_all_rev va0
  split at h
  · rename_i hrm
    obtain ⟨w1, w2, w3⟩ := e_rm_t hrm
    have hR' := X.2.2.2.2.2.2.2.1
    have hr := vx_runSX (e := e) (below := below) (meth := meth) (locs := locs) (e_fix X) (h ok va) (e_callH X hc hlk hst hR) (e_pre X hS hF (av.map e_tv)) (rest := r.map e_tv) (g := F0 m pc lsM ((av.reverse ++ r).map e_tv)) rfl (by simp [hlen]) (by rw [← X.2.2.2.1]; exact hl.1.trans X.2.2.2.1.symm) (by simp) (lv_room w1) hd ⟨by rw [hR']; exact w2, by rw [hR']; exact w3⟩
    have he : e_ex τ av = none := by unfold e_ex; rw [hct]; rfl
    rw [he] at hr
    refine e_run X hF hr (fun v M' H1 locs1 hq ok' le' hS' hF' hv' => ?_) (fun E M' H1 locs1 q ce hq ok' le' hS' hF' h1 h2 h3 => hq.elim)
    cases v with
    | none => exact hJ _ _ _ _ _ _ hq H1 locs1 lsM hl ok' (le.tr le') (vl.le le') (vr.le le') hS' hF'
    | some v => exact hJ _ _ _ _ _ _ hq H1 locs1 lsM hl ok' (le.tr le') (vl.le le') ⟨hv', vr.le le'⟩ hS' hF'
  · exact h.elim
end RH
