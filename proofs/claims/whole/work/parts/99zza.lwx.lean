/-! THE ENGINE, 12: the law's body: the script; calls whose room is shown; the reference is made. -/
/-- the script at b: L ints xs -/
def e_scr (g : EG) (b L : Nat) (xs : Nat → Int32) (s : State) : Prop := va_X b L xs s s.heap ∧ b < s.heap.size ∧ ¬ eA g b ∧ gS g 16 = b
section RL
variable {p : Program} {l : Launch} {e : Env} {g : EG} {σ : SG} {R : Room} {s : State} {m : MethodId} {args : Array Value} {below : List Frame} {meth : Method} {c : Code} {ex : Option Nat} {M0 : EM} {Q : EO → EM → Prop} {own : String} {pc np : Nat} {b L : Nat} {xs : Nat → Int32}
theorem e_ro_s {t a : Nat} {M : EM} (ok : e_ok M) (h : e_vok g M (.inr (.inr (.inr (.inr (t, a)))))) (h1 : t = 216) : a = gS g 16 := by
  subst h1
  rcases h with ⟨h2, h3⟩ | h2
  · exfalso
    have := (ok _ h2).1
    rw [h3] at this
    exact this rfl
  · rcases h2 with ⟨h3, -⟩ | ⟨-, -, h3⟩ | ⟨h3, -, -⟩ | h3
    · exact absurd (show (216 : Nat) = 60 from h3) (by decide)
    · have h4 : a = gS g (216 - 200) := h3
      exact h4.trans (congrArg (gS g) (show (216 - 200 : Nat) = 16 by decide))
    · exact absurd (show (300 : Nat) ≤ 216 from h3) (by decide)
    · exact absurd (show (216 : Nat) = 218 from h3) (by decide)
def s_xlen (L : Nat) : ES := fun _ _ nx ls st M nc ns => match st with
  | .inr (.inr (.inr (.inr q))) :: r => q.1 = 216 ∧ nx ls (.inl (nI L) :: r) M nc ns
  | _ => False
theorem r_xlen (X : Cx p l g σ R s m args meth c own) (hX : e_scr g b L xs s) (hd : decode (gcc σ) pc = .ok (.arraylength, 1)) (hn : pc + 1 = np) : RowOk p l e g σ R s m args below meth c ex M0 Q pc np (s_xlen L) := by
  intro J hJ ls st M nc ns h
  subst hn
  unfold s_xlen at h
  split at h
  · rename_i q r
    obtain ⟨hq, h⟩ := h
    intro H locs lsM hl ok le vl vs hS hF
    have ha := e_ro_s ok vs.1 hq
    have row := va_slen (p := p) (l := l) (e := e) (R := R) (m := m) (meth := meth) (locs := locs) (args := args) (below := below) (cells := nc) (slots := ns) (Q := vx_MQ below (e_Qc g ex M0 Q) (e_XC g ex M0 Q) args s (gmc σ) (gms σ) (eA g)) (ls := lsM) (rest := r.map e_tv) X.1 X.2.1 hX.1 hX.2.1 hX.2.2.1 hF hd (hJ _ _ _ _ _ _ h H locs lsM hl ok le vl ⟨trivial, vs.2⟩ hS hF)
    rw [← hX.2.2.2, ← ha] at row
    exact row
  · exact h.elim
def s_xald (L : Nat) (xs : Nat → Int32) : ES := fun _ _ nx ls st M nc ns => match st with
  | .inl i :: .inr (.inr (.inr (.inr q))) :: r => (q.1 = 216 ∧ vp_in i L) ∧ nx ls (.inl (xs i.toNatClampNeg) :: r) M nc ns
  | _ => False
theorem r_xald (X : Cx p l g σ R s m args meth c own) (hX : e_scr g b L xs s) (hd : decode (gcc σ) pc = .ok (.iaload, 1)) (hn : pc + 1 = np) : RowOk p l e g σ R s m args below meth c ex M0 Q pc np (s_xald L xs) := by
  intro J hJ ls st M nc ns h
  subst hn
  unfold s_xald at h
  split at h
  · rename_i i q r
    obtain ⟨⟨hq, hin⟩, h⟩ := h
    intro H locs lsM hl ok le vl vs hS hF
    have ha := e_ro_s ok vs.2.1 hq
    have row := va_sld (p := p) (l := l) (e := e) (R := R) (m := m) (meth := meth) (locs := locs) (args := args) (below := below) (cells := nc) (slots := ns) (Q := vx_MQ below (e_Qc g ex M0 Q) (e_XC g ex M0 Q) args s (gmc σ) (gms σ) (eA g)) (ls := lsM) (rest := r.map e_tv) X.1 X.2.1 hX.1 hX.2.1 hX.2.2.1 hF hin hd (hJ _ _ _ _ _ _ h H locs lsM hl ok le vl ⟨trivial, vs.2.2⟩ hS hF)
    rw [← hX.2.2.2, ← ha] at row
    exact row
  · exact h.elim
/-- a wrapper's call; the room is a side -/
def s_callSL (l : Launch) (g : EG) (σ τ : SG) : ES := fun _ _ nx ls st M nc ns => e_pop (gnp τ) [] st (fun av r => match Nat.ble (e_wt r) 8 with
  | true => (nc + gmc τ ≤ gmc σ ∧ ns + gms τ ≤ gms σ) ∧ CtH l g τ av M (e_aftN τ nx ls r nc ns)
  | false => False)
theorem e_rm_mk {τ σ : SG} {r : List EV} {nc ns : Nat} (h0 : Nat.ble (e_wt r) 8 = true) (h : nc + gmc τ ≤ gmc σ ∧ ns + gms τ ≤ gms σ) : e_rm τ σ r nc ns = true := by
  unfold e_rm
  rw [h0, Nat.ble_eq_true_of_le h.1, Nat.ble_eq_true_of_le h.2]
  rfl
theorem e_pop_mono : ∀ {n : Nat} {acc st : List EV} {f f' : List EV → List EV → Prop}, (∀ a r, f a r → f' a r) → e_pop n acc st f → e_pop n acc st f'
  | 0, _, _, _, _, hf, h => hf _ _ h
  | n + 1, acc, v :: st, f, f', hf, h => e_pop_mono (n := n) (acc := v :: acc) (st := st) hf h
  | _ + 1, _, [], _, _, _, h => h
theorem r_callSL (X : Cx p l g σ R s m args meth c own) (hN : e_NC s) {τ : SG} {index : Nat} (hd : decode (gcc σ) pc = .ok (.invokestatic index, 3)) (hlk : Cond.methodLink own index (gy τ) ∈ e_good) (hst : Cond.static (gy τ) ∈ e_good) (hc : e_csH τ) (hct : gct τ = false) (hR : e_fits τ σ) (hn : pc + 3 = np) : RowOk p l e g σ R s m args below meth c ex M0 Q pc np (s_callSL l g σ τ) := by
  intro J hJ ls st M nc ns h
  refine r_callSH X hN hd hlk hst hc hct hR hn J hJ ls st M nc ns ?_
  refine e_pop_mono ?_ h
  intro av r h
  split at h
  · rename_i h0
    rw [e_rm_mk h0 h.1]
    exact h.2
  · exact h.elim
/-- a virtual call that throws nothing; the room is a side -/
def s_callVL (l : Launch) (g : EG) (σ τ : SG) (ci : Nat) : ES := fun _ _ nx ls st M nc ns => e_pop (gnp τ + 1) [] st (fun av r => match Nat.ble (e_wt r) 8 with
  | true => match av with
    | .inr (.inr (.inr (.inr q))) :: _ => match e_isO q.1 ci with
      | true => (nc + gmc τ ≤ gmc σ ∧ ns + gms τ ≤ gms σ) ∧ Ct l g τ av M (e_aftN τ nx ls r nc ns)
      | false => False
    | _ => False
  | false => False)
theorem e_aftN_a {τ : SG} {ret : EO → EM → Nat → Nat → Prop} {nx : EK} {ls : List (Option EV)} {r : List EV} {nc ns : Nat} : ∀ o M', e_aftN τ nx ls r nc ns o M' → e_aft τ ret nx ls r nc ns o M' := by
  intro o M' h
  cases o with
  | inl v =>
    cases v with
    | none => exact h
    | some v => exact h
  | inr E => exact h.elim
theorem r_callVL (X : Cx p l g σ R s m args meth c own) (hh : ghh σ = []) {τ : SG} {index : Nat} {ci : Nat} (hd : decode (gcc σ) pc = .ok (.invokevirtual index, 3)) (hci : ci < 11) (hC : (gy τ).cls = e_cR ci) (hlk : Cond.methodLink own index (gy τ) ∈ e_good) (hin : Cond.instanceMethod (gy τ) ∈ e_good) (hse : Cond.selects (gy τ).cls (gy τ) (gy τ) ∈ e_good) (hc : e_cs τ) (hct : gct τ = false) (hR : e_fits τ σ) (hn : pc + 3 = np) : RowOk p l e g σ R s m args below meth c ex M0 Q pc np (s_callVL l g σ τ ci) := by
  intro J hJ ls st M nc ns h
  refine r_callV X hh hd hci hC hlk hin hse hc hct hR hn J hJ ls st M nc ns ?_
  refine e_pop_mono ?_ h
  intro av r h
  split at h
  · rename_i h0
    split at h
    · split at h
      · rename_i hq
        rw [e_rm_mk h0 h.1]
        dsimp only
        rw [hq]
        exact Ct.mono h.2 e_aftN_a
      · exact h.elim
    · exact h.elim
  · exact h.elim
/-- a constructor that may make its object whole, in a body that began with nothing -/
def s_callIL (l : Launch) (g : EG) (σ τ : SG) : ES := fun _ _ nx ls st M nc ns => match st with
  | .inr (.inr (.inr (.inr q))) :: r => match e_rm τ σ r nc ns with
    | true => Ct l g τ [.inr (.inr (.inr (.inr q)))] M (fun o M' => o = .inl none ∧ ∃ ls' r', (e_asc 0 ls' = e_asc 0 ls ∧ r'.map e_tv = r.map e_tv) ∧ (e_ok M' → e_le (some q.2) M M' → e_allL g M ls → e_all g M r → e_allL g M' ls' ∧ e_all g M' r') ∧ nx ls' r' M' (nc + gmc τ) (ns + gms τ))
    | false => False
  | _ => False
theorem r_callIL (X : Cx p l g σ R s m args meth c own) (hM0 : mA M0 = []) {τ : SG} {index : Nat} (hd : decode (gcc σ) pc = .ok (.invokespecial index, 3)) (hlk : Cond.methodLink own index (gy τ) ∈ e_good) (hin : Cond.instanceMethod (gy τ) ∈ e_good) (hc : e_cs τ) (hct : gct τ = true) (hret : grt τ = none) (hnm : (gy τ).name = "<init>") (hnp : gnp τ = 0) (hR : e_fits τ σ) (hn : pc + 3 = np) : RowOk p l e g σ R s m args below meth c ex M0 Q pc np (s_callIL l g σ τ) := by
  intro J hJ ls st M nc ns h
  subst hn
  unfold s_callIL at h
  split at h
  · rename_i q r
    intro H locs lsM hl ok le vl vs hS hF
    split at h
    · rename_i hrm
      obtain ⟨w1, w2, w3⟩ := e_rm_t hrm
      have hR' := X.2.2.2.2.2.2.2.1
      have cn := e_callB X hc hlk hR
      rw [hret] at cn
      have hr := vx_runI (e := e) (below := below) (meth := meth) (locs := locs) (rest := r.map e_tv) (g := F0 m pc lsM ((Sum.inr (Sum.inr (Sum.inr (Sum.inr q))) :: r).map e_tv)) (b := q.2) (As := []) (e_fix X) (h ok ⟨vs.1, trivial⟩) ⟨cn, hnm, e_wd0 X.2.2.2.2.2.2.1 hin⟩ (e_pre X hS hF [.ref q.2]) rfl (by rw [hnp]; rfl) (by rw [← X.2.2.2.1]; exact hl.1.trans X.2.2.2.1.symm) rfl (lv_room w1) hd ⟨by rw [hR']; exact w2, by rw [hR']; exact w3⟩
      have he : e_ex τ [Sum.inr (Sum.inr (Sum.inr (Sum.inr q)))] = some q.2 := by unfold e_ex; rw [hct]; rfl
      rw [he] at hr
      refine e_run X hF hr (fun v M' H1 locs1 hq ok' le' hS' hF' hv' => ?_) (fun E M' H1 locs1 q9 ce hq ok' le' hS' hF' h1 h2 h3 => absurd hq.1 (by simp))
      obtain ⟨e1, ls', r', ⟨f1, f2⟩, f3, f4⟩ := hq
      cases Sum.inl.inj e1
      obtain ⟨g1, g2⟩ := f3 ok' le' vl vs.2
      have hk := hJ _ _ _ _ _ _ f4 H1 locs1 lsM (by rw [f1]; exact hl) ok' (fun a ha => by rw [hM0] at ha; nomatch ha) g1 g2 hS' hF'
      rw [f2] at hk
      exact hk
    · exact h.elim
  · exact h.elim
end RL
