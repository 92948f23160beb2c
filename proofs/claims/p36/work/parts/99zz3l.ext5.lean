/-! THE ENGINE, 16: the law's rows: the script; calls and new things whose room is shown. -/
/-- the script at b: L ints xs -/
def e_scr (g : EG) (b L : Nat) (xs : Nat → Int32) (s : State) : Prop := va_X b L xs s s.heap ∧ b < s.heap.size ∧ ¬ eA g b ∧ gS g 60 = b
section RL
variable {p : Program} {l : Launch} {e : Env} {g : EG} {σ : SG} {R : Room} {s : State} {m : MethodId} {args : Array Value} {below : List Frame} {meth : Method} {c : Code} {ex : Option Nat} {M0 : EM} {Q : EO → EM → Prop} {own : String} {pc np : Nat} {b L : Nat} {xs : Nat → Int32}
theorem e_ro_s {t a : Nat} {M : EM} (ok : e_ok M) (h : e_vok g M (.inr (.inr (.inr (.inr (t, a)))))) (h1 : t = 260) : a = gS g 60 := by
  subst h1
  rcases h with ⟨h2, h3⟩ | h2
  · exfalso
    have := (ok _ h2).1
    rw [h3] at this
    exact this rfl
  · rcases h2 with ⟨h3, -⟩ | ⟨-, -, h3⟩ | ⟨h3, -, -⟩ | h3
    · exact absurd (show (260 : Nat) = 60 from h3) (by decide)
    · have h4 : a = gS g (260 - 200) := h3
      exact h4.trans (congrArg (gS g) (show (260 - 200 : Nat) = 60 by decide))
    · exact absurd (show (300 : Nat) ≤ 260 from h3) (by decide)
    · exact absurd (show (260 : Nat) = 399 from h3) (by decide)
def s_xlen (L : Nat) : ES := fun _ _ nx ls st M nc ns => match st with
  | .inr (.inr (.inr (.inr q))) :: r => q.1 = 260 ∧ nx ls (.inl (nI L) :: r) M nc ns
  | _ => False
theorem r_xlen (X : Cx p l g σ R s m args meth c own) (hX : e_scr g b L xs s) (hd : decode (gcc σ) pc = .ok (.arraylength, 1)) (hn : pc + 1 = np) : RowOk p l e g σ R s m args below meth c ex M0 Q pc np (s_xlen L) := by
  intro J hJ ls st M nc ns h
  subst hn
  unfold s_xlen at h
  split at h
  · rename_i q r
    obtain ⟨hq, h⟩ := h
    intro H locs lsM hl ok le vl vs hS hF
    have ha := e_ro_s ok vs.1 hq
    have row := va_slen (p := p) (l := l) (e := e) (R := R) (m := m) (meth := meth) (locs := locs) (args := args) (below := below) (cells := nc) (slots := ns) (Q := vx_MQ below (e_Qc g ex M0 Q) (e_XC g ex M0 Q) args s (gmc σ) (gms σ) (eA g)) (ls := lsM) (rest := r.map e_tv) X.1 X.2.1 hX.1 hX.2.1 hX.2.2.1 hF hd (hJ _ _ _ _ _ _ h H locs lsM hl ok le vl ⟨trivial, vs.2⟩ hS hF)
    rw [← hX.2.2.2, ← ha] at row
    exact row
  · exact h.elim
def s_xald (L : Nat) (xs : Nat → Int32) : ES := fun _ _ nx ls st M nc ns => match st with
  | .inl i :: .inr (.inr (.inr (.inr q))) :: r => (q.1 = 260 ∧ vp_in i L) ∧ nx ls (.inl (xs i.toNatClampNeg) :: r) M nc ns
  | _ => False
theorem r_xald (X : Cx p l g σ R s m args meth c own) (hX : e_scr g b L xs s) (hd : decode (gcc σ) pc = .ok (.iaload, 1)) (hn : pc + 1 = np) : RowOk p l e g σ R s m args below meth c ex M0 Q pc np (s_xald L xs) := by
  intro J hJ ls st M nc ns h
  subst hn
  unfold s_xald at h
  split at h
  · rename_i i q r
    obtain ⟨⟨hq, hin⟩, h⟩ := h
    intro H locs lsM hl ok le vl vs hS hF
    have ha := e_ro_s ok vs.2.1 hq
    have row := va_sld (p := p) (l := l) (e := e) (R := R) (m := m) (meth := meth) (locs := locs) (args := args) (below := below) (cells := nc) (slots := ns) (Q := vx_MQ below (e_Qc g ex M0 Q) (e_XC g ex M0 Q) args s (gmc σ) (gms σ) (eA g)) (ls := lsM) (rest := r.map e_tv) X.1 X.2.1 hX.1 hX.2.1 hX.2.2.1 hF hin hd (hJ _ _ _ _ _ _ h H locs lsM hl ok le vl ⟨trivial, vs.2.2⟩ hS hF)
    rw [← hX.2.2.2, ← ha] at row
    exact row
  · exact h.elim
theorem e_rm_mk {τ σ : SG} {r : List EV} {nc ns : Nat} (h0 : Nat.ble (e_wt r) 8 = true) (h : nc + gmc τ ≤ gmc σ ∧ ns + gms τ ≤ gms σ) : e_rm τ σ r nc ns = true := by
  unfold e_rm
  rw [h0, Nat.ble_eq_true_of_le h.1, Nat.ble_eq_true_of_le h.2]
  rfl
theorem e_pop_mono : ∀ {n : Nat} {acc st : List EV} {f f' : List EV → List EV → Prop}, (∀ a r, f a r → f' a r) → e_pop n acc st f → e_pop n acc st f'
  | 0, _, _, _, _, hf, h => hf _ _ h
  | n + 1, acc, v :: st, f, f', hf, h => e_pop_mono (n := n) (acc := v :: acc) (st := st) hf h
  | _ + 1, _, [], _, _, _, h => h
/-- a static call that throws nothing; the room is a side -/
def s_callSL (l : Launch) (g : EG) (σ τ : SG) : ES := fun _ _ nx ls st M nc ns => e_pop (gnp τ) [] st (fun av r => match Nat.ble (e_wt r) 8 with
  | true => (nc + gmc τ ≤ gmc σ ∧ ns + gms τ ≤ gms σ) ∧ Ct l g τ av M (e_aftN τ nx ls r nc ns)
  | false => False)
theorem r_callSHL (X : Cx p l g σ R s m args meth c own) {τ : SG} {index : Nat} (hd : decode (gcc σ) pc = .ok (.invokestatic index, 3)) (hlk : Cond.methodLink own index (gy τ) ∈ e_good) (hst : Cond.static (gy τ) ∈ e_good) (hc : e_csH τ) (hct : gct τ = false) (hR : e_fits τ σ) (hn : pc + 3 = np) : RowOk p l e g σ R s m args below meth c ex M0 Q pc np (s_callSL l g σ τ) := by
  intro J hJ ls st M nc ns h
  refine r_callSH X hd hlk hst hc hct hR hn J hJ ls st M nc ns ?_
  refine e_pop_mono ?_ h
  intro av r h
  split at h
  · rename_i h0
    rw [e_rm_mk h0 h.1]
    exact h.2
  · exact h.elim
theorem r_callSL (X : Cx p l g σ R s m args meth c own) {τ : SG} {index : Nat} (hd : decode (gcc σ) pc = .ok (.invokestatic index, 3)) (hlk : Cond.methodLink own index (gy τ) ∈ e_good) (hst : Cond.static (gy τ) ∈ e_good) (hc : e_cs τ) (hct : gct τ = false) (hR : e_fits τ σ) (hn : pc + 3 = np) : RowOk p l e g σ R s m args below meth c ex M0 Q pc np (s_callSL l g σ τ) := by
  intro J hJ ls st M nc ns h
  subst hn
  unfold s_callSL at h
  obtain ⟨av, r, rfl, hlen, h⟩ := e_pop_inv h
  rw [List.append_nil] at h
  intro H locs lsM hl ok le vl vs hS hF
  obtain ⟨va0, vr⟩ := e_all_app vs
  have va := e_all_rev va0
  split at h
  · rename_i hrm
    have hR' := X.2.2.2.2.2.2.2.1
    have hr := vx_runS (e := e) (below := below) (meth := meth) (locs := locs) (rest := r.map e_tv) (g := F0 m pc lsM ((av.reverse ++ r).map e_tv)) (e_fix X) (h.2 ok va) ⟨e_callB X hc hlk hR, e_wd0 X.2.2.2.2.2.2.1 hst⟩ (e_pre X hS hF (av.map e_tv)) rfl (by simp [hlen]) (by rw [← X.2.2.2.1]; exact hl.1.trans X.2.2.2.1.symm) (by simp) (lv_room (e_wt8 hrm)) hd ⟨by rw [hR']; exact h.1.1, by rw [hR']; exact h.1.2⟩
    have he : e_ex τ av = none := by unfold e_ex; rw [hct]; rfl
    rw [he] at hr
    refine e_run X hF hr (fun v M' H1 locs1 hq ok' le' hS' hF' hv' => ?_) (fun E M' H1 locs1 q ce hq ok' le' hS' hF' h1 h2 h3 => hq.elim)
    cases v with
    | none => exact hJ _ _ _ _ _ _ hq H1 locs1 lsM hl ok' (le.tr le') (vl.le le') (vr.le le') hS' hF'
    | some v => exact hJ _ _ _ _ _ _ hq H1 locs1 lsM hl ok' (le.tr le') (vl.le le') ⟨hv', vr.le le'⟩ hS' hF'
  · exact h.elim
/-- a virtual call that throws nothing; the room is a side -/
def s_callVL (l : Launch) (g : EG) (σ τ : SG) (ci : Nat) : ES := fun _ _ nx ls st M nc ns => e_pop (gnp τ + 1) [] st (fun av r => match Nat.ble (e_wt r) 8 with
  | true => match av with
    | .inr (.inr (.inr (.inr q))) :: _ => match e_isO q.1 ci with
      | true => (nc + gmc τ ≤ gmc σ ∧ ns + gms τ ≤ gms σ) ∧ Ct l g τ av M (e_aftN τ nx ls r nc ns)
      | false => False
    | _ => False
  | false => False)
theorem e_aftN_a {τ : SG} {ret : EO → EM → Nat → Nat → Prop} {nx : EK} {ls : List (Option EV)} {r : List EV} {nc ns : Nat} : ∀ o M', e_aftN τ nx ls r nc ns o M' → e_aft τ ret nx ls r nc ns o M' := by
  intro o M' h
  cases o with
  | inl v =>
    cases v with
    | none => exact h
    | some v => exact h
  | inr E => exact h.elim
theorem r_callVL (X : Cx p l g σ R s m args meth c own) (hh : ghh σ = []) {τ : SG} {index : Nat} {ci : Nat} (hd : decode (gcc σ) pc = .ok (.invokevirtual index, 3)) (hci : ci < 12) (hC : (gy τ).cls = e_cR ci) (hlk : Cond.methodLink own index (gy τ) ∈ e_good) (hin : Cond.instanceMethod (gy τ) ∈ e_good) (hse : Cond.selects (gy τ).cls (gy τ) (gy τ) ∈ e_good) (hc : e_cs τ) (hct : gct τ = false) (hR : e_fits τ σ) (hn : pc + 3 = np) : RowOk p l e g σ R s m args below meth c ex M0 Q pc np (s_callVL l g σ τ ci) := by
  intro J hJ ls st M nc ns h
  refine r_callV X hh hd hci hC hlk hin hse hc hct hR hn J hJ ls st M nc ns ?_
  refine e_pop_mono ?_ h
  intro av r h
  split at h
  · rename_i h0
    split at h
    · split at h
      · rename_i hq
        rw [e_rm_mk h0 h.1]
        dsimp only
        rw [hq]
        exact Ct.mono h.2 e_aftN_a
      · exact h.elim
    · exact h.elim
  · exact h.elim
/-- new things whose room is a side -/
def s_newL (σ : SG) (ci t : Nat) : ES := fun _ _ nx ls st M nc ns => (nc + 1 ≤ gmc σ ∧ ns + e_cN ci ≤ gms σ) ∧ nx ls (.inr (.inr (.inr (.inr (t, mN M)))) :: st) (sNew M t) (nc + 1) (ns + e_cN ci)
theorem r_newL {ci t : Nat} (h0 : RowOk p l e g σ R s m args below meth c ex M0 Q pc np (s_new σ ci t)) : RowOk p l e g σ R s m args below meth c ex M0 Q pc np (s_newL σ ci t) := by
  intro J hJ ls st M nc ns h
  refine h0 J hJ ls st M nc ns ?_
  unfold s_new
  rw [Nat.ble_eq_true_of_le h.1.1, Nat.ble_eq_true_of_le h.1.2]
  exact h.2
def s_newaL (σ : SG) (t n : Nat) : ES := fun _ _ nx ls st M nc ns => match st with
  | .inl v :: r => (nc + 1 ≤ gmc σ ∧ ns + n ≤ gms σ) ∧ (v = nI n) ∧ nx ls (.inr (.inr (.inr (.inr (t, mN M)))) :: r) (sNew M t) (nc + 1) (ns + n)
  | _ => False
theorem r_newaL {t n : Nat} (h0 : RowOk p l e g σ R s m args below meth c ex M0 Q pc np (s_newa σ t n)) : RowOk p l e g σ R s m args below meth c ex M0 Q pc np (s_newaL σ t n) := by
  intro J hJ ls st M nc ns h
  refine h0 J hJ ls st M nc ns ?_
  unfold s_newaL at h
  unfold s_newa
  split at h
  · dsimp only
    rw [Nat.ble_eq_true_of_le h.1.1, Nat.ble_eq_true_of_le h.1.2]
    exact h.2
  · exact h.elim
end RL
