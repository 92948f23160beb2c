/-! THE ENGINE, 6: ends of a method, calls. -/
section RC
variable {p : Program} {l : Launch} {e : Env} {g : EG} {σ : SG} {R : Room} {s : State} {m : MethodId} {args : Array Value} {below : List Frame} {meth : Method} {c : Code} {ex : Option Nat} {M0 : EM} {Q : EO → EM → Prop} {own : String} {pc np : Nat}
def s_ireti : ES := fun ret _ _ ls st M nc ns => match st with
  | .inl v :: [] => ret (.inl (some (.inl v))) M nc ns
  | _ => False
theorem r_ireti (X : Cx p l g σ R s m args meth c own) (hd : decode (gcc σ) pc = .ok (.ireturn, 1)) (hr : grt σ = some .int) : RowOk p l e g σ R s m args below meth c ex M0 Q pc np s_ireti := by
  intro J hJ ls st M nc ns h
  unfold s_ireti at h
  split at h
  · intro H locs lsM hl ok le vl vs hS hF
    refine W.widen (h).1 (h).2.1 (vx_ret ?_)
    exact W.zret X.1 X.2.1 (X.2.2.1.trans hr) rfl (fun t ht hW => ⟨some (.inl _), M, rfl, ok, le, by rw [ht]; exact hS, hF.F ht, trivial, (h).2.2⟩) hF.2.2 hd X.2.2.2.2.2.1
  · exact h.elim
def s_iretz : ES := fun ret _ _ ls st M nc ns => match st with
  | .inl v :: [] => e_fit .boolean v ∧ ret (.inl (some (.inl v))) M nc ns
  | _ => False
theorem r_iretz (X : Cx p l g σ R s m args meth c own) (hd : decode (gcc σ) pc = .ok (.ireturn, 1)) (hr : grt σ = some .boolean) : RowOk p l e g σ R s m args below meth c ex M0 Q pc np s_iretz := by
  intro J hJ ls st M nc ns h
  unfold s_iretz at h
  split at h
  · intro H locs lsM hl ok le vl vs hS hF
    refine W.widen (h.2).1 (h.2).2.1 (vx_ret ?_)
    exact W.zret X.1 X.2.1 (X.2.2.1.trans hr) (e_fit_n h.1).1 (fun t ht hW => ⟨some (.inl _), M, rfl, ok, le, by rw [ht]; exact hS, hF.F ht, trivial, (h.2).2.2⟩) hF.2.2 hd X.2.2.2.2.2.1
  · exact h.elim
def s_lret : ES := fun ret _ _ ls st M nc ns => match st with
  | .inr (.inl v) :: [] => ret (.inl (some (.inr (.inl v)))) M nc ns
  | _ => False
theorem r_lret (X : Cx p l g σ R s m args meth c own) (hd : decode (gcc σ) pc = .ok (.lreturn, 1)) (hr : grt σ = some .long) : RowOk p l e g σ R s m args below meth c ex M0 Q pc np s_lret := by
  intro J hJ ls st M nc ns h
  unfold s_lret at h
  split at h
  · intro H locs lsM hl ok le vl vs hS hF
    refine W.widen (h).1 (h).2.1 (vx_ret ?_)
    exact W.lret X.1 X.2.1 (X.2.2.1.trans hr) (fun t ht hW => ⟨some (.inr (.inl _)), M, rfl, ok, le, by rw [ht]; exact hS, hF.F ht, trivial, (h).2.2⟩) hF.2.2 hd X.2.2.2.2.2.1
  · exact h.elim
def s_fret : ES := fun ret _ _ ls st M nc ns => match st with
  | .inr (.inr (.inl v)) :: [] => ret (.inl (some (.inr (.inr (.inl v))))) M nc ns
  | _ => False
theorem r_fret (X : Cx p l g σ R s m args meth c own) (hd : decode (gcc σ) pc = .ok (.freturn, 1)) (hr : grt σ = some .float) : RowOk p l e g σ R s m args below meth c ex M0 Q pc np s_fret := by
  intro J hJ ls st M nc ns h
  unfold s_fret at h
  split at h
  · intro H locs lsM hl ok le vl vs hS hF
    refine W.widen (h).1 (h).2.1 (vx_ret ?_)
    exact W.fret X.1 X.2.1 (X.2.2.1.trans hr) (fun t ht hW => ⟨some (.inr (.inr (.inl _))), M, rfl, ok, le, by rw [ht]; exact hS, hF.F ht, trivial, (h).2.2⟩) hF.2.2 hd X.2.2.2.2.2.1
  · exact h.elim
def s_aret : ES := fun ret _ _ ls st M nc ns => match st with
  | .inr (.inr (.inr (.inr v))) :: [] => ret (.inl (some (.inr (.inr (.inr (.inr v)))))) M nc ns
  | _ => False
theorem r_aret (X : Cx p l g σ R s m args meth c own) (hd : decode (gcc σ) pc = .ok (.areturn, 1)) {C : String} (hr : grt σ = some (.object C)) : RowOk p l e g σ R s m args below meth c ex M0 Q pc np s_aret := by
  intro J hJ ls st M nc ns h
  unfold s_aret at h
  split at h
  · intro H locs lsM hl ok le vl vs hS hF
    refine W.widen (h).1 (h).2.1 (vx_ret ?_)
    exact W.aret X.1 X.2.1 (X.2.2.1.trans hr) (Or.inl ⟨_, rfl⟩) (Or.inr ⟨_, rfl⟩) (fun t ht hW => ⟨some (.inr (.inr (.inr (.inr _)))), M, rfl, ok, le, by rw [ht]; exact hS, hF.F ht, vs.1, (h).2.2⟩) hF.2.2 hd X.2.2.2.2.2.1
  · exact h.elim
def s_vret : ES := fun ret _ _ ls st M nc ns => match st with
  | [] => ret (.inl none) M nc ns
  | _ => False
theorem r_vret (X : Cx p l g σ R s m args meth c own) (hd : decode (gcc σ) pc = .ok (.return_, 1)) (hr : grt σ = none) : RowOk p l e g σ R s m args below meth c ex M0 Q pc np s_vret := by
  intro J hJ ls st M nc ns h
  unfold s_vret at h
  split at h
  · intro H locs lsM hl ok le vl vs hS hF
    refine W.widen (h).1 (h).2.1 (vx_ret ?_)
    exact W.vret X.1 X.2.1 (X.2.2.1.trans hr) (fun t ht hW => ⟨none, M, rfl, ok, le, by rw [ht]; exact hS, hF.F ht, trivial, (h).2.2⟩) hF.2.2 hd X.2.2.2.2.2.1
  · exact h.elim
def e_pop : Nat → List EV → List EV → (List EV → List EV → Prop) → Prop
  | 0, acc, st, f => f acc st
  | n + 1, acc, v :: st, f => e_pop n (v :: acc) st f
  | _ + 1, _, [], _ => False
theorem e_pop_inv : ∀ {n : Nat} {acc st : List EV} {f : List EV → List EV → Prop}, e_pop n acc st f → ∃ (a r : List EV), st = a.reverse ++ r ∧ a.length = n ∧ f (a ++ acc) r
  | 0, acc, st, f, h => ⟨[], st, rfl, rfl, h⟩
  | n + 1, acc, v :: st, f, h => by
    obtain ⟨a, r, h1, h2, h3⟩ := e_pop_inv (n := n) h
    refine ⟨a ++ [v], r, ?_, ?_, ?_⟩
    · rw [h1]; simp
    · simp [h2]
    · simpa using h3
  | n + 1, acc, [], f, h => by cases h
def e_wt : List EV → Nat
  | [] => 0
  | v :: r => (bif e_c1 v then 1 else 2) + e_wt r
theorem e_wt_le : ∀ {r : List EV}, ((r.map e_tv).map fun v => v.category).sum ≤ e_wt r
  | [] => Nat.le_refl _
  | v :: r => by
    have h := e_wt_le (r := r)
    have hc : (e_tv v).category = (bif e_c1 v then 1 else 2) := by rcases v with x | x | x | x | x <;> rfl
    simp only [List.map_cons, List.sum_cons, e_wt]
    rw [hc]
    omega
theorem e_all_app {g : EG} {M : EM} : ∀ {a r : List EV}, e_all g M (a ++ r) → e_all g M a ∧ e_all g M r
  | [], r, h => ⟨trivial, h⟩
  | v :: a, r, h => ⟨⟨h.1, (e_all_app (a := a) h.2).1⟩, (e_all_app (a := a) h.2).2⟩
theorem e_all_app' {g : EG} {M : EM} : ∀ {a r : List EV}, e_all g M a → e_all g M r → e_all g M (a ++ r)
  | [], r, _, h => h
  | v :: a, r, h, h' => ⟨h.1, e_all_app' (a := a) h.2 h'⟩
theorem e_all_rev {g : EG} {M : EM} : ∀ {a : List EV}, e_all g M a.reverse → e_all g M a
  | [], _ => trivial
  | v :: a, h => by
    rw [List.reverse_cons] at h
    obtain ⟨h1, h2⟩ := e_all_app h
    exact ⟨h2.1, e_all_rev h1⟩
/-- what a callee's rows say, once for all its callers -/
def e_cs (τ : SG) : Prop := gwd τ ∈ e_good ∧ Cond.initialized (gy τ).cls ∈ e_good ∧ ((gy τ).cls ≠ "java/lang/invoke/MethodHandle" ∧ (gy τ).cls ≠ "java/lang/invoke/VarHandle") ∧ (parseMethodDescriptor (gy τ).desc).map (fun d => d.parameters.length) = some (gnp τ) ∧ gwd τ = Cond.code (gy τ) (gcc τ) (gml τ) (grt τ)
def e_fits (τ σ : SG) : Prop := gfr τ + 1 ≤ gfr σ ∧ 8 + (gml τ + 11) + glo τ ≤ glo σ
theorem e_blind {g : EG} {av : List Value} {M : EM} : FrameBlind (e_Pc g av M) := by
  intro a U gg mk h
  obtain ⟨h1, h2, h3⟩ := h
  exact ⟨h1, h2.to (U := U.calling gg mk a) (State.WarmedH.refl U) (Nat.le_refl _) (fun _ _ _ => rfl), h3⟩
theorem e_callB (X : Cx p l g σ R s m args meth c own) {τ : SG} {index : Nat} (hc : e_cs τ) (hlk : Cond.methodLink own index (gy τ) ∈ e_good) (hR : e_fits τ σ) : CallB R s args own index (gy τ) (gcc τ) (gml τ) (grt τ) (gws τ) (grm τ) (gmc τ) (gms τ) (gnp τ) := by
  have hG := X.2.2.2.2.2.2.1
  have hRR := X.2.2.2.2.2.2.2.1
  refine ⟨rfl, rfl, by rw [hRR]; exact hR.1, by rw [hRR]; exact hR.2, fun w hw a' U hW => ?_, by rw [← hc.2.2.2.2]; exact List.mem_singleton.mpr rfl, by rw [← hc.2.2.2.2]; exact e_wd0 hG hc.1, e_wd0 hG hc.2.1, hc.2.2.1, fun sig h => ?_, e_wd0 hG hlk⟩
  · rw [List.mem_singleton.mp hw]
    exact word_at hW (good_of_word (List.mem_filter.mp hc.1).2) (e_wd0 (args := #[]) hG hc.1)
  · have h2 := hc.2.2.2.1
    rw [h] at h2
    exact (Option.some.inj h2).symm
theorem e_callN (X : Cx p l g σ R s m args meth c own) {τ : SG} {index : Nat} {host : String} (hc : e_cs τ) (hlk : Cond.methodLinkNest own index (gy τ) host ∈ e_nest) (hR : e_fits τ σ) : va_CN R s args own index (gy τ) host (gcc τ) (gml τ) (grt τ) (gws τ) (grm τ) (gmc τ) (gms τ) (gnp τ) := by
  have hG := X.2.2.2.2.2.2.1
  have hRR := X.2.2.2.2.2.2.2.1
  refine ⟨⟨rfl, rfl, by rw [hRR]; exact hR.1, by rw [hRR]; exact hR.2, fun w hw a' U hW => ?_, by rw [← hc.2.2.2.2]; exact List.mem_singleton.mpr rfl⟩, by rw [← hc.2.2.2.2]; exact e_wd0 hG hc.1, e_wd0 hG hc.2.1, hc.2.2.1, fun sig h => ?_, va_Nw.use rfl (hG.2.2.1 _ hlk)⟩
  · rw [List.mem_singleton.mp hw]
    exact word_at hW (good_of_word (List.mem_filter.mp hc.1).2) (e_wd0 (args := #[]) hG hc.1)
  · have h2 := hc.2.2.2.1
    rw [h] at h2
    exact (Option.some.inj h2).symm
theorem e_fix (X : Cx p l g σ R s m args meth c own) : CallFix p m c (gcc σ) (gml σ) s args e_good own := ⟨X.1, X.2.1, X.2.2.2.1, X.2.2.2.2.1, fun w hw => e_wd0 X.2.2.2.2.2.2.1 hw⟩
theorem e_pre (X : Cx p l g σ R s m args meth c own) {M : EM} {H : Heap} {locs : List Loc} (hS : e_St g M H) (hF : va_S (eA g) s.heap H locs) (av : List Value) : PreS s H (e_Pc g av M) av :=
  ⟨e_blind, fun U hU hW => ⟨rfl, X.2.2.2.2.2.2.1.to hW (by rw [hU]; exact hF.1) (fun a h1 h2 => by rw [hU]; exact hF.2.1 a h1 h2), by rw [hU]; exact hS⟩⟩
theorem e_preV (X : Cx p l g σ R s m args meth c own) {M : EM} {H : Heap} {locs : List Loc} {q : Nat × Nat} {ci : Nat} {C : String} (hci : ci < 12) (hC : C = e_cR ci) (hq : e_kd q.1 = some (.inl ci)) (hv : e_vok g M (.inr (.inr (.inr (.inr q))))) (hS : e_St g M H) (hF : va_S (eA g) s.heap H locs) (av : List Value) : PreV s H C q.2 (e_Pc g (.ref q.2 :: av) M) av := by
  obtain ⟨h1, h2⟩ := e_pre X hS hF (.ref q.2 :: av)
  refine ⟨h1, ?_, h2⟩
  obtain ⟨hm, ht⟩ := e_vok_in hv hq
  obtain ⟨k0, hk0⟩ := e_wd_get (g := g) hm
  rw [e_ent_o ht hq] at hk0
  rw [hC]
  exact va_recv X.2.2.2.2.2.2.1.1 hS.2.1 (e_cl_at ci hci) hk0
/-- behind a call: how it goes on, or how the exception leaves -/
theorem e_run (X : Cx p l g σ R s m args meth c own) {ex' : Option Nat} {M : EM} {Q' : EO → EM → Prop} {H : Heap} {locs : List Loc} {lsM : Array Slot} {st0 rest : List Value} {nc ns mc ms : Nat} {aa : Array Value} (hF : va_S (eA g) s.heap H locs)
    (hr : vx_Run p l e R s m args below meth c H locs nc ns mc ms (F0 m pc lsM st0) rest (e_Qc g ex' M Q' aa) (e_XC g ex' M Q') (eA g))
    (kn : ∀ (v : Option EV) (M' : EM) (H1 : Heap) (locs1 : List Loc), Q' (.inl v) M' → e_ok M' → e_le ex' M M' → e_St g M' H1 → va_S (eA g) s.heap H1 locs1 → e_vokO g M' v → W p l e R s m args below meth c H1 locs1 (nc + mc) (ns + ms) (vx_MQ below (e_Qc g ex M0 Q) (e_XC g ex M0 Q) args s (gmc σ) (gms σ) (eA g)) (F0 m (pc + 3) lsM ((v.map e_tv).toList ++ rest)))
    (kx : ∀ (E : String) (M' : EM) (H1 : Heap) (locs1 : List Loc) (q : Addr) (ce : Cell), Q' (.inr E) M' → e_ok M' → e_le ex' M M' → e_St g M' H1 → va_S (eA g) s.heap H1 locs1 → H1[q]? = some ce → ce.vm = .none → s.vm.findClass E = some ce.cls → vx_W p l e R s m args below meth c H1 locs1 (nc + mc) (ns + ms) (vx_MQ below (e_Qc g ex M0 Q) (e_XC g ex M0 Q) args s (gmc σ) (gms σ) (eA g)) (F0 m pc lsM rest) q) :
    W p l e R s m args below meth c H locs nc ns (vx_MQ below (e_Qc g ex M0 Q) (e_XC g ex M0 Q) args s (gmc σ) (gms σ) (eA g)) (F0 m pc lsM st0) := by
  intro T hT X1
  rcases hr T hT X1 with ⟨v, st₀, t, T', L, h0, X', hL, e1, e2, ⟨v', M', hv, q1, q2, q3, q4, q5, q6⟩, st⟩ | ⟨q, st₀, t, T', L, E, ce, h0, X', hL, e1, e2, ⟨M', q1, q2, q3, q4, q6⟩, hce, hcv, hcl, st⟩
  · cases hv
    obtain ⟨-, -, k3⟩ := vx_keep h0 e1 hF (fun _ _ h => h) (fun _ h => h) hL q4
    obtain ⟨t2, a1, b1⟩ := kn v' M' T'.heap (locs ++ L) q6 q1 q2 (by rw [e1]; exact q3) k3 q5 T' rfl X'
    exact ⟨t2, st t2 a1, b1⟩
  · obtain ⟨-, -, k3⟩ := vx_keep h0 e1 hF (fun _ _ h => h) (fun _ h => h) hL q4
    obtain ⟨t2, a1, b1⟩ := kx E M' T'.heap (locs ++ L) q ce q6 q1 q2 (by rw [e1]; exact q3) k3 (by rw [e1]; exact hce) hcv hcl T' rfl X'
    exact ⟨t2, st.trans a1, b1⟩
/-- an exception leaves a method without handlers -/
theorem e_out (X : Cx p l g σ R s m args meth c own) (hh : ghh σ = []) {E : String} {M' : EM} {H1 : Heap} {locs1 : List Loc} {q : Addr} {ce : Cell} {nc ns : Nat} {lsM : Array Slot} {rest : List Value} (h : e_ret σ Q (.inr E) M' nc ns) (ok : e_ok M') (le : e_le ex M0 M') (hS : e_St g M' H1) (hF : va_S (eA g) s.heap H1 locs1) (hq : H1[q]? = some ce) (hv : ce.vm = .none) (hc : s.vm.findClass E = some ce.cls) :
    vx_W p l e R s m args below meth c H1 locs1 nc ns (vx_MQ below (e_Qc g ex M0 Q) (e_XC g ex M0 Q) args s (gmc σ) (gms σ) (eA g)) (F0 m pc lsM rest) q := by
  refine vx_out (fun x hx => ?_) X.2.2.2.2.2.1 hq hv hc (fun t ht _ => ⟨M', ok, le, by rw [ht]; exact hS, hF.F ht, h.2.2⟩) hF.2.2 h.1 h.2.1
  rw [X.2.2.2.2.2.2.2.2.2.2, hh] at hx
  cases hx
def e_aft (τ : SG) (ret : EO → EM → Nat → Nat → Prop) (nx : EK) (ls : List (Option EV)) (r : List EV) (nc ns : Nat) : EO → EM → Prop := fun o M' => match o with
  | .inl none => nx ls r M' (nc + gmc τ) (ns + gms τ)
  | .inl (some v) => nx ls (v :: r) M' (nc + gmc τ) (ns + gms τ)
  | .inr E => ret (.inr E) M' (nc + gmc τ) (ns + gms τ)
def e_rm (τ σ : SG) (r : List EV) (nc ns : Nat) : Bool := Nat.ble (e_wt r) 8 && (Nat.ble (nc + gmc τ) (gmc σ) && Nat.ble (ns + gms τ) (gms σ))
theorem e_rm_t {τ σ : SG} {r : List EV} {nc ns : Nat} (h : e_rm τ σ r nc ns = true) : ((r.map e_tv).map fun v => v.category).sum ≤ 8 ∧ nc + gmc τ ≤ gmc σ ∧ ns + gms τ ≤ gms σ := by
  simp only [e_rm, Bool.and_eq_true] at h
  exact ⟨Nat.le_trans e_wt_le (Nat.le_of_ble_eq_true h.1), Nat.le_of_ble_eq_true h.2.1, Nat.le_of_ble_eq_true h.2.2⟩
/-- a call that makes nothing whole -/
def s_callS (l : Launch) (g : EG) (σ τ : SG) : ES := fun ret _ nx ls st M nc ns => e_pop (gnp τ) [] st (fun av r => match e_rm τ σ r nc ns with
  | true => Ct l g τ av M (e_aft τ ret nx ls r nc ns)
  | false => False)
def s_callV (l : Launch) (g : EG) (σ τ : SG) (ci : Nat) : ES := fun ret _ nx ls st M nc ns => e_pop (gnp τ + 1) [] st (fun av r => match e_rm τ σ r nc ns with
  | true => match av with
    | .inr (.inr (.inr (.inr q))) :: _ => match e_isO q.1 ci with
      | true => Ct l g τ av M (e_aft τ ret nx ls r nc ns)
      | false => False
    | _ => False
  | false => False)
theorem e_after (X : Cx p l g σ R s m args meth c own) (hh : ghh σ = []) {τ : SG} (hct : gct τ = false) {av r : List EV} {M : EM} {J : Nat → EK} {nc ns : Nat} {ls : List (Option EV)} (hJ : ∀ t ls st M nc ns, J t ls st M nc ns → Run p l e g σ R s m args below meth c ex M0 Q t ls st M nc ns) {H : Heap} {locs : List Loc} {lsM : Array Slot} {st0 : List Value} {aa : Array Value} (hl : lv_has lsM (gml σ) (e_asc 0 ls)) (le : e_le ex M0 M) (vl : e_allL g M ls) (vr : e_all g M r) (hF : va_S (eA g) s.heap H locs)
    (hr : vx_Run p l e R s m args below meth c H locs nc ns (gmc τ) (gms τ) (F0 m pc lsM st0) (r.map e_tv) (e_Qc g (e_ex τ av) M (e_aft τ (e_ret σ Q) (J (pc + 3)) ls r nc ns) aa) (e_XC g (e_ex τ av) M (e_aft τ (e_ret σ Q) (J (pc + 3)) ls r nc ns)) (eA g)) :
    W p l e R s m args below meth c H locs nc ns (vx_MQ below (e_Qc g ex M0 Q) (e_XC g ex M0 Q) args s (gmc σ) (gms σ) (eA g)) (F0 m pc lsM st0) := by
  have he : e_ex τ av = none := by unfold e_ex; rw [hct]; rfl
  rw [he] at hr
  refine e_run X hF hr (fun v M' H1 locs1 hq ok' le' hS' hF' hv' => ?_) (fun E M' H1 locs1 q ce hq ok' le' hS' hF' h1 h2 h3 => ?_)
  · cases v with
    | none => exact hJ _ _ _ _ _ _ hq H1 locs1 lsM hl ok' (le.tr le') (vl.le le') (vr.le le') hS' hF'
    | some v => exact hJ _ _ _ _ _ _ hq H1 locs1 lsM hl ok' (le.tr le') (vl.le le') ⟨hv', vr.le le'⟩ hS' hF'
  · exact e_out X hh hq ok' (le.tr le') hS' hF' h1 h2 h3
theorem r_callS (X : Cx p l g σ R s m args meth c own) (hh : ghh σ = []) {τ : SG} {index : Nat} (hd : decode (gcc σ) pc = .ok (.invokestatic index, 3)) (hlk : Cond.methodLink own index (gy τ) ∈ e_good) (hst : Cond.static (gy τ) ∈ e_good) (hc : e_cs τ) (hct : gct τ = false) (hR : e_fits τ σ) (hn : pc + 3 = np) : RowOk p l e g σ R s m args below meth c ex M0 Q pc np (s_callS l g σ τ) := by
  intro J hJ ls st M nc ns h
  subst hn
  unfold s_callS at h
  obtain ⟨av, r, rfl, hlen, h⟩ := e_pop_inv h
  rw [List.append_nil] at h
  intro H locs lsM hl ok le vl vs hS hF
  obtain ⟨va0, vr⟩ := e_all_app vs
  have va := e_all_rev va0
  split at h
  · rename_i hrm
    obtain ⟨w1, w2, w3⟩ := e_rm_t hrm
    have hR' := X.2.2.2.2.2.2.2.1
    exact e_after X hh hct hJ hl le vl vr hF (vx_runS (e_fix X) (h ok va) ⟨e_callB X hc hlk hR, e_wd0 X.2.2.2.2.2.2.1 hst⟩ (e_pre X hS hF (av.map e_tv)) rfl (by simp [hlen]) (by rw [← X.2.2.2.1]; exact hl.1.trans X.2.2.2.1.symm) (by simp) (lv_room w1) hd ⟨by rw [hR']; exact w2, by rw [hR']; exact w3⟩)
  · exact h.elim
theorem r_callSN (X : Cx p l g σ R s m args meth c own) (hh : ghh σ = []) {τ : SG} {index : Nat} {host : String} (hd : decode (gcc σ) pc = .ok (.invokestatic index, 3)) (hlk : Cond.methodLinkNest own index (gy τ) host ∈ e_nest) (hst : Cond.static (gy τ) ∈ e_good) (hc : e_cs τ) (hct : gct τ = false) (hR : e_fits τ σ) (hn : pc + 3 = np) : RowOk p l e g σ R s m args below meth c ex M0 Q pc np (s_callS l g σ τ) := by
  intro J hJ ls st M nc ns h
  subst hn
  unfold s_callS at h
  obtain ⟨av, r, rfl, hlen, h⟩ := e_pop_inv h
  rw [List.append_nil] at h
  intro H locs lsM hl ok le vl vs hS hF
  obtain ⟨va0, vr⟩ := e_all_app vs
  have va := e_all_rev va0
  split at h
  · rename_i hrm
    obtain ⟨w1, w2, w3⟩ := e_rm_t hrm
    have hR' := X.2.2.2.2.2.2.2.1
    exact e_after X hh hct hJ hl le vl vr hF (vx_runSN (e_fix X) (h ok va) ⟨e_callN X hc hlk hR, e_wd0 X.2.2.2.2.2.2.1 hst, trivial⟩ (e_pre X hS hF (av.map e_tv)) rfl (by simp [hlen]) (by rw [← X.2.2.2.1]; exact hl.1.trans X.2.2.2.1.symm) (by simp) (lv_room w1) hd ⟨by rw [hR']; exact w2, by rw [hR']; exact w3⟩)
  · exact h.elim
theorem r_callV (X : Cx p l g σ R s m args meth c own) (hh : ghh σ = []) {τ : SG} {index : Nat} {ci : Nat} (hd : decode (gcc σ) pc = .ok (.invokevirtual index, 3)) (hci : ci < 12) (hC : (gy τ).cls = e_cR ci) (hlk : Cond.methodLink own index (gy τ) ∈ e_good) (hin : Cond.instanceMethod (gy τ) ∈ e_good) (hse : Cond.selects (gy τ).cls (gy τ) (gy τ) ∈ e_good) (hc : e_cs τ) (hct : gct τ = false) (hR : e_fits τ σ) (hn : pc + 3 = np) : RowOk p l e g σ R s m args below meth c ex M0 Q pc np (s_callV l g σ τ ci) := by
  intro J hJ ls st M nc ns h
  subst hn
  unfold s_callV at h
  obtain ⟨av, r, rfl, hlen, h⟩ := e_pop_inv h
  rw [List.append_nil] at h
  intro H locs lsM hl ok le vl vs hS hF
  obtain ⟨va0, vr⟩ := e_all_app vs
  have va := e_all_rev va0
  split at h
  · rename_i hrm
    obtain ⟨w1, w2, w3⟩ := e_rm_t hrm
    have hR' := X.2.2.2.2.2.2.2.1
    split at h
    · rename_i q av' hz
      split at h
      · rename_i hq
        exact e_after X hh hct hJ hl le vl vr hF (vx_runV (b := q.2) (As := av'.map e_tv) (e_fix X) (h ok va) ⟨e_callB X hc hlk hR, e_wd0 X.2.2.2.2.2.2.1 hin, e_wd0 X.2.2.2.2.2.2.1 hse⟩ (e_preV X hci hC (e_isO_kd hq) va.1 hS hF (av'.map e_tv)) rfl (by simpa using hlen) (by rw [← X.2.2.2.1]; exact hl.1.trans X.2.2.2.1.symm) (by simp [e_tv]) (lv_room w1) hd ⟨by rw [hR']; exact w2, by rw [hR']; exact w3⟩)
      · exact h.elim
    · exact h.elim
  · exact h.elim
end RC
