/-! THE ENGINE, 5: fields and arrays, the rows. -/
section RM
variable {p : Program} {l : Launch} {e : Env} {g : EG} {σ : SG} {R : Room} {s : State} {m : MethodId} {args : Array Value} {below : List Frame} {meth : Method} {c : Code} {ex : Option Nat} {M0 : EM} {Q : EO → EM → Prop} {own : String} {pc np : Nat}
def s_getI (ci k : Nat) : ES := fun _ _ nx ls st M nc ns => match st with
  | .inr (.inr (.inr (.inr q))) :: r => match e_isO q.1 ci with
    | true => nx ls (.inl (mI M q.2 k) :: r) M nc ns
    | false => False
  | _ => False
theorem r_getI (X : Cx p l g σ R s m args meth c own) {index ci k : Nat} (hd : decode (gcc σ) pc = .ok (.getfield index, 3)) (hci : ci < 12) (hk : k < e_cN ci) (hty : e_isI (e_cT ci k) = true) (hlk : Cond.fieldLink own index (e_cF ci k).1 (e_cF ci k).2.1 (e_cF ci k).2.2.1 ∈ e_good) (hn : pc + 3 = np) : RowOk p l e g σ R s m args below meth c ex M0 Q pc np (s_getI ci k) := by
  intro J hJ ls st M nc ns h
  subst hn
  unfold s_getI at h
  split at h
  · split at h
    · rename_i q r x hq
      intro H locs lsM hl ok le vl vs hS hF
      obtain ⟨hm, ht⟩ := e_vok_in vs.1 (e_isO_kd hq)
      obtain ⟨k0, hk0⟩ := e_wd_get (g := g) hm
      rw [e_ent_o ht (e_isO_kd hq)] at hk0
      exact va_get (D := gD g) (C := e_cR ci) (T := e_cF ci) (N := e_cN ci) X.1 X.2.1 (fun w hw => e_wd0 X.2.2.2.2.2.2.1 hw) (e_cl_ws ci hci) X.2.2.2.2.1 X.2.2.2.2.2.2.1.1 hS.2.1 k0 hk0 (e_cl_at ci hci) k hk (e_wd0 X.2.2.2.2.2.2.1 hlk) (fun _ h9 => h9) (v := .int (mI M q.2 k)) (by rw [e_get hk, e_fv_I hty]) hd (hJ _ _ _ _ _ _ h H locs lsM hl ok le vl ⟨trivial, vs.2⟩ hS hF)
    · exact h.elim
  · exact h.elim
/-- a reference in a field: where it leads is known by the tag; else it must be told -/
def s_getP (ci k : Nat) : ES := fun _ _ nx ls st M nc ns => match st with
  | .inr (.inr (.inr (.inr q))) :: r => match e_isO q.1 ci with
    | true => match e_pf q.1 k with
      | some off => nx ls (.inr (.inr (.inr (.inr (e_pt q.1 k, q.2 + off)))) :: r) M nc ns
      | none => ∃ b, mP M q.2 k = some b ∧ nx ls (.inr (.inr (.inr (.inr (e_pt q.1 k, b)))) :: r) M nc ns
    | false => False
  | _ => False
theorem r_getP (X : Cx p l g σ R s m args meth c own) {index ci k : Nat} (hd : decode (gcc σ) pc = .ok (.getfield index, 3)) (hci : ci < 10) (hk : k < e_cN ci) (hty : e_isR (e_cT ci k) = true) (hlk : Cond.fieldLink own index (e_cF ci k).1 (e_cF ci k).2.1 (e_cF ci k).2.2.1 ∈ e_good) (hn : pc + 3 = np) : RowOk p l e g σ R s m args below meth c ex M0 Q pc np (s_getP ci k) := by
  intro J hJ ls st M nc ns h
  subst hn
  unfold s_getP at h
  split at h
  · split at h
    · rename_i q r x hq
      intro H locs lsM hl ok le vl vs hS hF
      obtain ⟨hm, ht⟩ := e_vok_in vs.1 (e_isO_kd hq)
      obtain ⟨k0, hk0⟩ := e_wd_get (g := g) hm
      rw [e_ent_o ht (e_isO_kd hq)] at hk0
      have key : ∀ b, mP M q.2 k = some b → J (pc + 3) ls (.inr (.inr (.inr (.inr (e_pt q.1 k, b)))) :: r) M nc ns → W p l e R s m args below meth c H locs nc ns (vx_MQ below (e_Qc g ex M0 Q) (e_XC g ex M0 Q) args s (gmc σ) (gms σ) (eA g)) (F0 m pc lsM (.ref q.2 :: r.map e_tv)) := by
        intro b hb h
        have hb2 := ((ok q.2 hm).2.1 k b hb).resolve_left (by rw [ht]; exact e_pt_n hq hci)
        rw [ht] at hb2
        exact va_get (D := gD g) (C := e_cR ci) (T := e_cF ci) (N := e_cN ci) X.1 X.2.1 (fun w hw => e_wd0 X.2.2.2.2.2.2.1 hw) (e_cl_ws ci (by omega)) X.2.2.2.2.1 X.2.2.2.2.2.2.1.1 hS.2.1 k0 hk0 (e_cl_at ci (by omega)) k hk (e_wd0 X.2.2.2.2.2.2.1 hlk) (fun _ h9 => h9) (v := .ref b) (by rw [e_get hk, e_fv_R hty, hb]; rfl) hd (hJ _ _ _ _ _ _ h H locs lsM hl ok le vl ⟨Or.inl hb2, vs.2⟩ hS hF)
      split at h
      · rename_i off hoff
        exact key _ ((ok q.2 hm).2.2 k off (by rw [ht]; exact hoff)) h
      · obtain ⟨b, hb, h⟩ := h
        exact key b hb h
    · exact h.elim
  · exact h.elim
theorem e_ok_sI {M : EM} {a k : Nat} {v : Int32} (h : e_ok M) : e_ok (sI M a k v) := h
theorem e_ok_sL {M : EM} {a k : Nat} {v : Int64} (h : e_ok M) : e_ok (sL M a k v) := h
theorem e_ok_sP {M : EM} {a k v : Nat} (h : e_ok M) (hv : e_pt (mT M a) k = 999 ∨ (v ∈ mA M ∧ mT M v = e_pt (mT M a) k)) (hp : e_pf (mT M a) k = none) : e_ok (sP M a k v) := by
  intro b hb
  obtain ⟨h1, h2, h3⟩ := h b hb
  refine ⟨h1, fun j q hq => ?_, fun j off ho => ?_⟩
  · by_cases hba : b = a
    · by_cases hj : j = k
      · subst hba; subst hj
        have : q = v := by simpa [mP, sP, e_up] using hq.symm
        subst this
        exact hv
      · refine h2 j q ?_
        simpa [mP, sP, e_up, hba, hj] using hq
    · refine h2 j q ?_
      simpa [mP, sP, e_up, hba] using hq
  · have ho' : e_pf (mT M b) j = some off := ho
    have h4 := h3 j off ho'
    by_cases hba : b = a
    · by_cases hj : j = k
      · subst hba; subst hj
        rw [hp] at ho'
        cases ho'
      · simpa [mP, sP, e_up, hba, hj] using h4
    · simpa [mP, sP, e_up, hba] using h4
/-- a field's own rule: a boolean is 0 or 1 -/
def e_fit (ty : FieldType) (v : Int32) : Prop := match ty with
  | .int => True
  | t => narrow t (.int v) = .int v ∧ fits t (.int v) = true
theorem e_fit_n {ty : FieldType} {v : Int32} (h : e_fit ty v) : narrow ty (.int v) = .int v ∧ fits ty (.int v) = true := by
  cases ty <;> first | exact h | exact ⟨rfl, rfl⟩
theorem e_fit_b {v : Int32} (h : v = 0 ∨ v = 1) : e_fit .boolean v := by
  rcases h with rfl | rfl <;> exact ⟨by decide, by decide⟩
theorem m_set {g : EG} {M M' : EM} {H H1 : Heap} {a k0 : Nat} {en : va_E} (hS : e_St g M H) (hm : a ∈ mA M) (hk : (e_wd g M)[k0]? = some (a, e_ent g M a)) (hat : va_at (gD g) vwCl (a, en) H1) (hz : H1.size = H.size) (oq : ∀ q : Nat, q ≠ a → H1[q]? = H[q]?) (hA : mA M' = mA M) (hN : mN M' = mN M) (hen : e_ent g M' a = en) (hne : ∀ b, b ≠ a → e_ent g M' b = e_ent g M b) : e_St g M' H1 := by
  have h1 := hS.2.1.set hS.2.2 hk hat oq
  have h2 := hS.2.2.set (e := en) hk
  rw [← hen, e_wd_set hS.2.2 hm hk hA hne] at h1 h2
  exact ⟨by rw [hz, hN]; exact hS.1, h1, h2⟩
theorem m_put (X : Cx p l g σ R s m args meth c own) {index ci k : Nat} (hd : decode (gcc σ) pc = .ok (.putfield index, 3)) (hci : ci < 12) (hk : k < e_cN ci) (hfin : (e_cF ci k).2.2.2 = false ∨ ((e_cF ci k).2.2.2 = true ∧ meth.name = "<init>" ∧ (e_cF ci k).1 = own)) (hlk : Cond.fieldLink own index (e_cF ci k).1 (e_cF ci k).2.1 (e_cF ci k).2.2.1 ∈ e_good)
    {M M' : EM} {a t nc ns : Nat} {H : Heap} {locs : List Loc} {lsM : Array Slot} {rest : List Value} (hm : a ∈ mA M) (ht : mT M a = t) (hq : e_kd t = some (.inl ci)) {v : Value} (hnv : narrow (e_cT ci k) v = v) (hfit : fits (e_cT ci k) v = true)
    (hA : mA M' = mA M) (hN : mN M' = mN M) (hne : ∀ b, b ≠ a → e_ent g M' b = e_ent g M b) (hen : e_ent g M' a = .inr (ci, ((List.range (e_cN ci)).map (fun k => e_fv M (e_cT ci k) a k)).set k v)) (hS : e_St g M H) (hF : va_S (eA g) s.heap H locs)
    (kk : ∀ (H1 : Heap) (locs1 : List Loc), e_St g M' H1 → va_S (eA g) s.heap H1 locs1 → W p l e R s m args below meth c H1 locs1 nc ns (vx_MQ below (e_Qc g ex M0 Q) (e_XC g ex M0 Q) args s (gmc σ) (gms σ) (eA g)) (F0 m (pc + 3) lsM rest)) : W p l e R s m args below meth c H locs nc ns (vx_MQ below (e_Qc g ex M0 Q) (e_XC g ex M0 Q) args s (gmc σ) (gms σ) (eA g)) (F0 m pc lsM (v :: .ref a :: rest)) := by
  have hts : ∀ w ∈ e_good, w.before args s = true := fun w hw => e_wd0 X.2.2.2.2.2.2.1 hw
  have hK := X.2.2.2.2.2.2.1.1
  have hap := va_apart (own := own) hts (e_cl_ws ci hci) (e_cT ci) (e_cl_ty ci hci) (e_cl_nm ci hci) hK (e_cl_at ci hci)
  obtain ⟨k0, hk0⟩ := e_wd_get (g := g) hm
  have hk1 := hk0
  rw [e_ent_o ht hq] at hk0
  obtain ⟨r, h1, cell, q1, q2, q3, q4⟩ := hS.2.1 k0 _ hk0
  have hr : r = (e_cR ci, e_cF ci, e_cN ci) := Option.some.inj (h1.symm.trans (e_cl_at ci hci))
  subst hr
  obtain ⟨hSl, hfc, kC, hkC, hkind⟩ := hK.1 ci _ (e_cl_at ci hci)
  obtain ⟨cf, kf, fi, f, hi, hsl⟩ := hSl k hk
  have hlay := hts _ (e_cl_ws ci hci _ (u_in_lay hk))
  have hst := (u_facts hfc hkC (u_lays hts (e_cl_ws ci hci) hk) hi).1
  have fin : ∀ H1 : Heap, H1[a]? = some (cell.setSlot ((gD g).2 ci k) v) → H1.size = H.size → (∀ q : Nat, q ≠ a → H1[q]? = H[q]?) → e_St g M' H1 := by
    intro H1 e1 e2 e3
    refine m_set hS hm hk1 (en := .inr (ci, ((List.range (e_cN ci)).map (fun k => e_fv M (e_cT ci k) a k)).set k v)) ⟨_, e_cl_at ci hci, t_OB.to (V := updV (vp_V ((List.range (e_cN ci)).map (fun k => e_fv M (e_cT ci k) a k))) k v) ⟨_, e1, q2, q3, t_set q4 hap hk v⟩ (fun j _ => vp_updV_set (by simp [hk]) v j)⟩ e2 e3 hA hN hen hne
  rcases hfin with hfin | ⟨hfin, hini, hown⟩
  · unfold u_lay at hlay
    rw [if_neg (by rw [hfin]; decide)] at hlay
    have h6 := u_store hfc hkC hkind hlay hi (e_cl_ty ci hci k hk) hnv hfit
    refine W.putK X.1 X.2.1 (f := f) ⟨X.2.2.2.2.1, e_wd0 X.2.2.2.2.2.2.1 hlk, ⟨_, _, _, hi⟩, hst⟩ (by rw [q2]; exact h6) q1 q3 (by rw [hsl]; exact k2_hasslot (q4 k hk)) rfl rfl hd fun H1 e1 e2 e3 => ?_
    rw [hsl] at e1 ⊢
    exact kk H1 _ (fin H1 e1 e2 e3) (hF.put e2 e3 (hS.2.2.2 k0 _ hk0))
  · unfold u_lay at hlay
    rw [if_pos hfin] at hlay
    have hcf : m.cls = cf := by
      obtain ⟨_, _, c', _, _, _, -, -, hf', -, -, -, hown2, -⟩ := Cond.laysFinal_spec hlay
      have e1 : c' = cf := by have := hi.symm.trans hf'; simp at this; exact this.1.symm
      rw [hown] at hown2
      rw [← e1]; exact Option.some.inj (X.2.2.2.2.1.symm.trans hown2)
    have h6 := u_fits hfc hkC hkind (Or.inr hlay) hi (e_cl_ty ci hci k hk) hnv hfit
    refine W.putFinK X.1 X.2.1 X.2.2.2.2.1 (e_wd0 X.2.2.2.2.2.2.1 hlk) hi hst hcf hini (by rw [q2]; exact h6) q1 q3 (by rw [hsl]; exact k2_hasslot (q4 k hk)) rfl rfl hd fun H1 e1 e2 e3 => ?_
    rw [hsl] at e1 ⊢
    exact kk H1 _ (fin H1 e1 e2 e3) (hF.put e2 e3 (hS.2.2.2 k0 _ hk0))
def s_putI (ci k : Nat) : ES := fun _ _ nx ls st M nc ns => match st with
  | .inl v :: .inr (.inr (.inr (.inr q))) :: r => match e_isO q.1 ci with
    | true => e_fit (e_cT ci k) v ∧ nx ls r (sI M q.2 k v) nc ns
    | false => False
  | _ => False
theorem r_putI (X : Cx p l g σ R s m args meth c own) {index ci k : Nat} (hd : decode (gcc σ) pc = .ok (.putfield index, 3)) (hci : ci < 12) (hk : k < e_cN ci) (hty : e_isI (e_cT ci k) = true) (hfin : (e_cF ci k).2.2.2 = false) (hlk : Cond.fieldLink own index (e_cF ci k).1 (e_cF ci k).2.1 (e_cF ci k).2.2.1 ∈ e_good) (hn : pc + 3 = np) : RowOk p l e g σ R s m args below meth c ex M0 Q pc np (s_putI ci k) := by
  intro J hJ ls st M nc ns h
  subst hn
  unfold s_putI at h
  split at h
  · split at h
    · rename_i v q r x hq
      intro H locs lsM hl ok le vl vs hS hF
      obtain ⟨hm, ht⟩ := e_vok_in vs.2.1 (e_isO_kd hq)
      obtain ⟨f1, f2⟩ := e_fit_n h.1
      refine m_put X hd hci hk (Or.inl hfin) hlk hm ht (e_isO_kd hq) (v := .int v) (M' := sI M q.2 k v) f1 f2 rfl rfl (fun b hb => e_ent_sI hb) ?_ hS hF (fun H1 locs1 hS1 hF1 => hJ _ _ _ _ _ _ h.2 H1 locs1 lsM hl (e_ok_sI ok) le (e_allL.le (M := M) (M' := sI M q.2 k v) (fun _ h9 _ => ⟨h9, rfl⟩) vl) (e_all.le (M := M) (M' := sI M q.2 k v) (fun _ h9 _ => ⟨h9, rfl⟩) vs.2.2) hS1 hF1)
      rw [e_ent_o (M := sI M q.2 k v) (t := q.1) ht (e_isO_kd hq)]
      congr 2
      refine (e_lset (fun j hj hne => ?_) ?_).symm
      · unfold e_fv
        have : mI (sI M q.2 k v) q.2 j = mI M q.2 j := by simp [mI, sI, e_up, hne]
        cases e_cT ci j <;> first | rfl | rw [this]
      · rw [e_fv_I hty]; simp [mI, sI, e_up]
    · exact h.elim
  · exact h.elim
theorem e_fit_R {ty : FieldType} {a : Nat} (h : e_isR ty = true) : narrow ty (.ref a) = .ref a ∧ fits ty (.ref a) = true := by
  cases ty <;> first | exact ⟨rfl, rfl⟩ | (cases h; done)
def s_putP (ci k : Nat) : ES := fun _ _ nx ls st M nc ns => match st with
  | .inr (.inr (.inr (.inr v))) :: .inr (.inr (.inr (.inr q))) :: r => match e_isO q.1 ci, e_pf q.1 k, Nat.beq v.1 (e_pt q.1 k), e_kd v.1 with
    | true, none, true, some _ => nx ls r (sP M q.2 k v.2) nc ns
    | _, _, _, _ => False
  | _ => False
theorem r_putP (X : Cx p l g σ R s m args meth c own) {index ci k : Nat} (hd : decode (gcc σ) pc = .ok (.putfield index, 3)) (hci : ci < 12) (hk : k < e_cN ci) (hty : e_isR (e_cT ci k) = true) (hfin : (e_cF ci k).2.2.2 = false ∨ ((e_cF ci k).2.2.2 = true ∧ (gy σ).name = "<init>" ∧ (e_cF ci k).1 = own)) (hlk : Cond.fieldLink own index (e_cF ci k).1 (e_cF ci k).2.1 (e_cF ci k).2.2.1 ∈ e_good) (hn : pc + 3 = np) : RowOk p l e g σ R s m args below meth c ex M0 Q pc np (s_putP ci k) := by
  intro J hJ ls st M nc ns h
  subst hn
  unfold s_putP at h
  split at h
  · split at h
    · rename_i v q r x1 x2 x3 x4 kv hq hpf hpt hkv
      intro H locs lsM hl ok le vl vs hS hF
      obtain ⟨hm, ht⟩ := e_vok_in vs.2.1 (e_isO_kd hq)
      obtain ⟨hmv, htv⟩ := e_vok_in vs.1 hkv
      obtain ⟨f1, f2⟩ := e_fit_R (a := v.2) hty
      have hini : (e_cF ci k).2.2.2 = false ∨ ((e_cF ci k).2.2.2 = true ∧ meth.name = "<init>" ∧ (e_cF ci k).1 = own) := by
        rw [X.2.2.2.2.2.2.2.2.2.1]; exact hfin
      have ok1 : e_ok (sP M q.2 k v.2) := e_ok_sP ok (Or.inr ⟨hmv, by rw [ht, htv]; exact Nat.eq_of_beq_eq_true hpt⟩) (by rw [ht]; exact hpf)
      refine m_put X hd hci hk hini hlk hm ht (e_isO_kd hq) (v := .ref v.2) (M' := sP M q.2 k v.2) f1 f2 rfl rfl (fun b hb => e_ent_sP hb) ?_ hS hF (fun H1 locs1 hS1 hF1 => hJ _ _ _ _ _ _ h H1 locs1 lsM hl ok1 le (e_allL.le (M := M) (M' := sP M q.2 k v.2) (fun _ h9 _ => ⟨h9, rfl⟩) vl) (e_all.le (M := M) (M' := sP M q.2 k v.2) (fun _ h9 _ => ⟨h9, rfl⟩) vs.2.2) hS1 hF1)
      rw [e_ent_o (M := sP M q.2 k v.2) (t := q.1) ht (e_isO_kd hq)]
      congr 2
      refine (e_lset (fun j hj hne => ?_) ?_).symm
      · unfold e_fv
        have : mP (sP M q.2 k v.2) q.2 j = mP M q.2 j := by simp [mP, sP, e_up, hne]
        cases e_cT ci j <;> first | rfl | rw [this]
      · rw [e_fv_R hty]; simp [mP, sP, e_up, va_rf]
    · exact h.elim
  · exact h.elim
def s_iald : ES := fun _ _ nx ls st M nc ns => match st with
  | .inl i :: .inr (.inr (.inr (.inr q))) :: r => match e_aN q.1 0 with
    | some n => vp_in i n ∧ nx ls (.inl (mI M q.2 i.toNatClampNeg) :: r) M nc ns
    | none => False
  | _ => False
theorem r_iald (X : Cx p l g σ R s m args meth c own) (hd : decode (gcc σ) pc = .ok (.iaload, 1)) (hn : pc + 1 = np) : RowOk p l e g σ R s m args below meth c ex M0 Q pc np s_iald := by
  intro J hJ ls st M nc ns h
  subst hn
  unfold s_iald at h
  split at h
  · split at h
    · rename_i i q r x n hq
      intro H locs lsM hl ok le vl vs hS hF
      obtain ⟨hm, ht⟩ := e_vok_in vs.2.1 (e_aN_kd hq)
      obtain ⟨k0, hk0⟩ := e_wd_get (g := g) hm
      rw [e_ent_a ht (e_aN_kd hq)] at hk0
      exact va_iald (D := gD g) X.1 X.2.1 X.2.2.2.2.2.2.1.1 hS.2.1 k0 0 hk0 rfl h.1 hd (hJ _ _ _ _ _ _ h.2 H locs lsM hl ok le vl ⟨trivial, vs.2.2⟩ hS hF)
    · exact h.elim
  · exact h.elim
def s_bald : ES := fun _ _ nx ls st M nc ns => match st with
  | .inl i :: .inr (.inr (.inr (.inr q))) :: r => match e_aN q.1 1 with
    | some n => vp_in i n ∧ nx ls (.inl (mI M q.2 i.toNatClampNeg) :: r) M nc ns
    | none => False
  | _ => False
theorem r_bald (X : Cx p l g σ R s m args meth c own) (hd : decode (gcc σ) pc = .ok (.baload, 1)) (hn : pc + 1 = np) : RowOk p l e g σ R s m args below meth c ex M0 Q pc np s_bald := by
  intro J hJ ls st M nc ns h
  subst hn
  unfold s_bald at h
  split at h
  · split at h
    · rename_i i q r x n hq
      intro H locs lsM hl ok le vl vs hS hF
      obtain ⟨hm, ht⟩ := e_vok_in vs.2.1 (e_aN_kd hq)
      obtain ⟨k0, hk0⟩ := e_wd_get (g := g) hm
      rw [e_ent_a ht (e_aN_kd hq)] at hk0
      exact va_bald (D := gD g) X.1 X.2.1 X.2.2.2.2.2.2.1.1 hS.2.1 k0 1 hk0 rfl h.1 hd (hJ _ _ _ _ _ _ h.2 H locs lsM hl ok le vl ⟨trivial, vs.2.2⟩ hS hF)
    · exact h.elim
  · exact h.elim
def s_zald : ES := fun _ _ nx ls st M nc ns => match st with
  | .inl i :: .inr (.inr (.inr (.inr q))) :: r => match e_aN q.1 2 with
    | some n => vp_in i n ∧ nx ls (.inl (mI M q.2 i.toNatClampNeg) :: r) M nc ns
    | none => False
  | _ => False
theorem r_zald (X : Cx p l g σ R s m args meth c own) (hd : decode (gcc σ) pc = .ok (.baload, 1)) (hn : pc + 1 = np) : RowOk p l e g σ R s m args below meth c ex M0 Q pc np s_zald := by
  intro J hJ ls st M nc ns h
  subst hn
  unfold s_zald at h
  split at h
  · split at h
    · rename_i i q r x n hq
      intro H locs lsM hl ok le vl vs hS hF
      obtain ⟨hm, ht⟩ := e_vok_in vs.2.1 (e_aN_kd hq)
      obtain ⟨k0, hk0⟩ := e_wd_get (g := g) hm
      rw [e_ent_a ht (e_aN_kd hq)] at hk0
      exact va_zald (D := gD g) X.1 X.2.1 X.2.2.2.2.2.2.1.1 hS.2.1 k0 2 hk0 rfl h.1 hd (hJ _ _ _ _ _ _ h.2 H locs lsM hl ok le vl ⟨trivial, vs.2.2⟩ hS hF)
    · exact h.elim
  · exact h.elim
def s_lald : ES := fun _ _ nx ls st M nc ns => match st with
  | .inl i :: .inr (.inr (.inr (.inr q))) :: r => match e_aN q.1 3 with
    | some n => vp_in i n ∧ nx ls (.inr (.inl (mL M q.2 i.toNatClampNeg)) :: r) M nc ns
    | none => False
  | _ => False
theorem r_lald (X : Cx p l g σ R s m args meth c own) (hd : decode (gcc σ) pc = .ok (.laload, 1)) (hn : pc + 1 = np) : RowOk p l e g σ R s m args below meth c ex M0 Q pc np s_lald := by
  intro J hJ ls st M nc ns h
  subst hn
  unfold s_lald at h
  split at h
  · split at h
    · rename_i i q r x n hq
      intro H locs lsM hl ok le vl vs hS hF
      obtain ⟨hm, ht⟩ := e_vok_in vs.2.1 (e_aN_kd hq)
      obtain ⟨k0, hk0⟩ := e_wd_get (g := g) hm
      rw [e_ent_a ht (e_aN_kd hq)] at hk0
      exact va_lald (D := gD g) X.1 X.2.1 X.2.2.2.2.2.2.1.1 hS.2.1 k0 3 hk0 rfl h.1 hd (hJ _ _ _ _ _ _ h.2 H locs lsM hl ok le vl ⟨trivial, vs.2.2⟩ hS hF)
    · exact h.elim
  · exact h.elim
def s_iast : ES := fun _ _ nx ls st M nc ns => match st with
  | .inl v :: .inl i :: .inr (.inr (.inr (.inr q))) :: r => match e_aN q.1 0 with
    | some n => vp_in i n ∧ nx ls r (sI M q.2 i.toNatClampNeg v) nc ns
    | none => False
  | _ => False
theorem r_iast (X : Cx p l g σ R s m args meth c own) (hd : decode (gcc σ) pc = .ok (.iastore, 1)) (hn : pc + 1 = np) : RowOk p l e g σ R s m args below meth c ex M0 Q pc np s_iast := by
  intro J hJ ls st M nc ns h
  subst hn
  unfold s_iast at h
  split at h
  · split at h
    · rename_i v i q r x n hq
      intro H locs lsM hl ok le vl vs hS hF
      obtain ⟨hm, ht⟩ := e_vok_in vs.2.2.1 (e_aN_kd hq)
      obtain ⟨k0, hk0⟩ := e_wd_get (g := g) hm
      have hk1 := hk0
      rw [e_ent_a ht (e_aN_kd hq)] at hk0
      refine W.iast X.1 X.2.1 (hS.2.1 k0 _ hk0) ((X.2.2.2.2.2.2.1.1.2 0 _ rfl).1 n (fun j => .int (mI M q.2 j))) (fun h9 => by cases h9) (by show ¬ (i < 0 ∨ (arrV _ _ _).slots.size ≤ _); rw [arrV_size]; exact h.1) rfl rfl hd fun H1 e1 z oq => ?_
      have le1 : e_le none M (sI M q.2 i.toNatClampNeg v) := fun _ h9 _ => ⟨h9, rfl⟩
      refine hJ _ _ _ _ _ _ h.2 H1 _ lsM hl ok le (vl.le le1) (vs.2.2.2.le le1) ?_ (hF.put z oq (hS.2.2.2 k0 _ hk0))
      refine m_set hS hm hk1 (en := .inl (gC g 0, n, e_arr (sI M q.2 i.toNatClampNeg v) q.2 0)) ?_ z oq rfl rfl (e_ent_a (M := sI M q.2 i.toNatClampNeg v) ht (e_aN_kd hq)) (fun b hb => e_ent_sI hb)
      show H1[q.2]? = some (vp_cell _ _)
      rw [e1]
      show some ((arrV (gC g 0) n (fun j => .int (mI M q.2 j))).setSlot _ _) = some (arrV (gC g 0) n (fun j => .int (mI (sI M q.2 i.toNatClampNeg v) q.2 j)))
      rw [arrV_store]
      congr 2
      funext j
      by_cases hj : j = i.toNatClampNeg
      · subst hj
        simp [updV, mI, sI, e_up]
        try rfl
      · simp [updV, mI, sI, e_up, hj]
    · exact h.elim
  · exact h.elim
def s_bast : ES := fun _ _ nx ls st M nc ns => match st with
  | .inl v :: .inl i :: .inr (.inr (.inr (.inr q))) :: r => match e_aN q.1 1 with
    | some n => vp_in i n ∧ nx ls r (sI M q.2 i.toNatClampNeg (vp_nar .byte v)) nc ns
    | none => False
  | _ => False
theorem r_bast (X : Cx p l g σ R s m args meth c own) (hd : decode (gcc σ) pc = .ok (.bastore, 1)) (hn : pc + 1 = np) : RowOk p l e g σ R s m args below meth c ex M0 Q pc np s_bast := by
  intro J hJ ls st M nc ns h
  subst hn
  unfold s_bast at h
  split at h
  · split at h
    · rename_i v i q r x n hq
      intro H locs lsM hl ok le vl vs hS hF
      obtain ⟨hm, ht⟩ := e_vok_in vs.2.2.1 (e_aN_kd hq)
      obtain ⟨k0, hk0⟩ := e_wd_get (g := g) hm
      have hk1 := hk0
      rw [e_ent_a ht (e_aN_kd hq)] at hk0
      refine W.bast X.1 X.2.1 (hS.2.1 k0 _ hk0) ((X.2.2.2.2.2.2.1.1.2 1 _ rfl).1 n (fun j => .int (mI M q.2 j))) (fun h9 => by cases h9) (by show ¬ (i < 0 ∨ (arrV _ _ _).slots.size ≤ _); rw [arrV_size]; exact h.1) rfl rfl hd fun H1 e1 z oq => ?_
      have le1 : e_le none M (sI M q.2 i.toNatClampNeg (vp_nar .byte v)) := fun _ h9 _ => ⟨h9, rfl⟩
      refine hJ _ _ _ _ _ _ h.2 H1 _ lsM hl ok le (vl.le le1) (vs.2.2.2.le le1) ?_ (hF.put z oq (hS.2.2.2 k0 _ hk0))
      refine m_set hS hm hk1 (en := .inl (gC g 1, n, e_arr (sI M q.2 i.toNatClampNeg (vp_nar .byte v)) q.2 1)) ?_ z oq rfl rfl (e_ent_a (M := sI M q.2 i.toNatClampNeg (vp_nar .byte v)) ht (e_aN_kd hq)) (fun b hb => e_ent_sI hb)
      show H1[q.2]? = some (vp_cell _ _)
      rw [e1]
      show some ((arrV (gC g 1) n (fun j => .int (mI M q.2 j))).setSlot _ _) = some (arrV (gC g 1) n (fun j => .int (mI (sI M q.2 i.toNatClampNeg (vp_nar .byte v)) q.2 j)))
      rw [arrV_store]
      congr 2
      funext j
      by_cases hj : j = i.toNatClampNeg
      · subst hj
        simp [updV, mI, sI, vp_nar, e_up]
        try rfl
      · simp [updV, mI, sI, vp_nar, e_up, hj]
    · exact h.elim
  · exact h.elim
def s_zast : ES := fun _ _ nx ls st M nc ns => match st with
  | .inl v :: .inl i :: .inr (.inr (.inr (.inr q))) :: r => match e_aN q.1 2 with
    | some n => vp_in i n ∧ nx ls r (sI M q.2 i.toNatClampNeg (vp_nar .boolean v)) nc ns
    | none => False
  | _ => False
theorem r_zast (X : Cx p l g σ R s m args meth c own) (hd : decode (gcc σ) pc = .ok (.bastore, 1)) (hn : pc + 1 = np) : RowOk p l e g σ R s m args below meth c ex M0 Q pc np s_zast := by
  intro J hJ ls st M nc ns h
  subst hn
  unfold s_zast at h
  split at h
  · split at h
    · rename_i v i q r x n hq
      intro H locs lsM hl ok le vl vs hS hF
      obtain ⟨hm, ht⟩ := e_vok_in vs.2.2.1 (e_aN_kd hq)
      obtain ⟨k0, hk0⟩ := e_wd_get (g := g) hm
      have hk1 := hk0
      rw [e_ent_a ht (e_aN_kd hq)] at hk0
      refine W.zast X.1 X.2.1 (hS.2.1 k0 _ hk0) ((X.2.2.2.2.2.2.1.1.2 2 _ rfl).1 n (fun j => .int (mI M q.2 j))) (fun h9 => by cases h9) (by show ¬ (i < 0 ∨ (arrV _ _ _).slots.size ≤ _); rw [arrV_size]; exact h.1) rfl rfl hd fun H1 e1 z oq => ?_
      have le1 : e_le none M (sI M q.2 i.toNatClampNeg (vp_nar .boolean v)) := fun _ h9 _ => ⟨h9, rfl⟩
      refine hJ _ _ _ _ _ _ h.2 H1 _ lsM hl ok le (vl.le le1) (vs.2.2.2.le le1) ?_ (hF.put z oq (hS.2.2.2 k0 _ hk0))
      refine m_set hS hm hk1 (en := .inl (gC g 2, n, e_arr (sI M q.2 i.toNatClampNeg (vp_nar .boolean v)) q.2 2)) ?_ z oq rfl rfl (e_ent_a (M := sI M q.2 i.toNatClampNeg (vp_nar .boolean v)) ht (e_aN_kd hq)) (fun b hb => e_ent_sI hb)
      show H1[q.2]? = some (vp_cell _ _)
      rw [e1]
      show some ((arrV (gC g 2) n (fun j => .int (mI M q.2 j))).setSlot _ _) = some (arrV (gC g 2) n (fun j => .int (mI (sI M q.2 i.toNatClampNeg (vp_nar .boolean v)) q.2 j)))
      rw [arrV_store]
      congr 2
      funext j
      by_cases hj : j = i.toNatClampNeg
      · subst hj
        simp [updV, mI, sI, vp_nar, e_up]
        try rfl
      · simp [updV, mI, sI, vp_nar, e_up, hj]
    · exact h.elim
  · exact h.elim
def s_last : ES := fun _ _ nx ls st M nc ns => match st with
  | .inr (.inl v) :: .inl i :: .inr (.inr (.inr (.inr q))) :: r => match e_aN q.1 3 with
    | some n => vp_in i n ∧ nx ls r (sL M q.2 i.toNatClampNeg v) nc ns
    | none => False
  | _ => False
theorem r_last (X : Cx p l g σ R s m args meth c own) (hd : decode (gcc σ) pc = .ok (.lastore, 1)) (hn : pc + 1 = np) : RowOk p l e g σ R s m args below meth c ex M0 Q pc np s_last := by
  intro J hJ ls st M nc ns h
  subst hn
  unfold s_last at h
  split at h
  · split at h
    · rename_i v i q r x n hq
      intro H locs lsM hl ok le vl vs hS hF
      obtain ⟨hm, ht⟩ := e_vok_in vs.2.2.1 (e_aN_kd hq)
      obtain ⟨k0, hk0⟩ := e_wd_get (g := g) hm
      have hk1 := hk0
      rw [e_ent_a ht (e_aN_kd hq)] at hk0
      refine W.last X.1 X.2.1 (hS.2.1 k0 _ hk0) ((X.2.2.2.2.2.2.1.1.2 3 _ rfl).1 n (fun j => .long (mL M q.2 j))) (fun h9 => by cases h9) (by show ¬ (i < 0 ∨ (arrV _ _ _).slots.size ≤ _); rw [arrV_size]; exact h.1) rfl rfl hd fun H1 e1 z oq => ?_
      have le1 : e_le none M (sL M q.2 i.toNatClampNeg v) := fun _ h9 _ => ⟨h9, rfl⟩
      refine hJ _ _ _ _ _ _ h.2 H1 _ lsM hl ok le (vl.le le1) (vs.2.2.2.le le1) ?_ (hF.put z oq (hS.2.2.2 k0 _ hk0))
      refine m_set hS hm hk1 (en := .inl (gC g 3, n, e_arr (sL M q.2 i.toNatClampNeg v) q.2 3)) ?_ z oq rfl rfl (e_ent_a (M := sL M q.2 i.toNatClampNeg v) ht (e_aN_kd hq)) (fun b hb => e_ent_sL hb)
      show H1[q.2]? = some (vp_cell _ _)
      rw [e1]
      show some ((arrV (gC g 3) n (fun j => .long (mL M q.2 j))).setSlot _ _) = some (arrV (gC g 3) n (fun j => .long (mL (sL M q.2 i.toNatClampNeg v) q.2 j)))
      rw [arrV_store]
      congr 2
      funext j
      by_cases hj : j = i.toNatClampNeg
      · subst hj
        simp [updV, mL, sL, e_up]
        try rfl
      · simp [updV, mL, sL, e_up, hj]
    · exact h.elim
  · exact h.elim
/-- arrays of references, whole: length, what the place j leads to -/
def e_aR : Nat → Option (Nat × Nat)
  | 6 => some (3, 5) | 8 => some (8, 6) | 15 => some (2, 8) | 20 => some (12, 7) | 21 => some (2, 7) | _ => none
def e_po : Nat → Nat → Nat
  | 6, j => 1 + j | 8, j => 1 + 5 * j | 15, j => 1 + 48 * j | 20, j => 1 + 145 * j | 21, j => 1 + 145 * j | _, _ => 0
theorem e_aR_kd {t : Nat} {q : Nat × Nat} (h : e_aR t = some q) : e_kd t = some (.inr (q.2, q.1)) ∧ (∀ j, j < q.1 → e_pf t j = some (e_po t j)) ∧ (∀ j, e_pt t j = e_pt t 0) ∧ 5 ≤ q.2 ∧ q.2 < 9 := by
  unfold e_aR at h
  split at h <;> first | (cases h; done) | (cases h; refine ⟨rfl, fun j hj => ?_, fun j => rfl, by decide, by decide⟩; have hb := Nat.blt_eq.mpr hj; simp only [e_pf, e_po]; rw [hb]; rfl)
theorem e_tyR {g : EG} {ai : Nat} (h1 : 5 ≤ ai) (h2 : ai < 9) : ∃ C : String, (e_tys g)[ai]? = some (gC g ai, .object C) := by
  rcases (show ai = 5 ∨ ai = 6 ∨ ai = 7 ∨ ai = 8 by omega) with rfl | rfl | rfl | rfl
  · exact ⟨_, rfl⟩
  · exact ⟨_, rfl⟩
  · exact ⟨_, rfl⟩
  · exact ⟨_, rfl⟩
theorem e_arrR {M : EM} {a ai : Nat} (h1 : 4 ≤ ai) : e_arr M a ai = .inr (.inr (.inr (.inr (mP M a)))) := by
  rcases ai with _ | _ | _ | _ | ai <;> first | omega | rfl
def s_aald : ES := fun _ _ nx ls st M nc ns => match st with
  | .inl i :: .inr (.inr (.inr (.inr q))) :: r => match e_aR q.1 with
    | some n => vp_in i n.1 ∧ nx ls (.inr (.inr (.inr (.inr (e_pt q.1 0, q.2 + e_po q.1 i.toNatClampNeg)))) :: r) M nc ns
    | none => False
  | _ => False
theorem r_aald (X : Cx p l g σ R s m args meth c own) (hd : decode (gcc σ) pc = .ok (.aaload, 1)) (hn : pc + 1 = np) : RowOk p l e g σ R s m args below meth c ex M0 Q pc np s_aald := by
  intro J hJ ls st M nc ns h
  subst hn
  unfold s_aald at h
  split at h
  · split at h
    · rename_i i q r x n hq
      intro H locs lsM hl ok le vl vs hS hF
      obtain ⟨hkd, hpf, hpt, h5, h9⟩ := e_aR_kd hq
      obtain ⟨hm, ht⟩ := e_vok_in vs.2.1 hkd
      obtain ⟨k0, hk0⟩ := e_wd_get (g := g) hm
      rw [e_ent_a ht hkd, e_arrR (by omega)] at hk0
      obtain ⟨C, hC⟩ := e_tyR (g := g) h5 h9
      have hlt : i.toNatClampNeg < n.1 := Nat.not_le.mp fun q => h.1 (Or.inr q)
      have hp := (ok q.2 hm).2.2 i.toNatClampNeg _ (by rw [ht]; exact hpf _ hlt)
      have hv := ((ok q.2 hm).2.1 _ _ hp).resolve_left (fun z => by rw [ht] at z; rcases e_pt_9 z with z | z | z <;> (rw [z] at hq; cases hq))
      rw [ht, hpt] at hv
      have row := va_aldq (D := gD g) (p := p) (l := l) (e := e) (R := R) (m := m) (meth := meth) (locs := locs) (args := args) (below := below) (cells := nc) (slots := ns) (Q := vx_MQ below (e_Qc g ex M0 Q) (e_XC g ex M0 Q) args s (gmc σ) (gms σ) (eA g)) (ls := lsM) (rest := r.map e_tv) X.1 X.2.1 X.2.2.2.2.2.2.1.1 hS.2.1 k0 n.2 hk0 hC h.1 hd
      rw [hp] at row
      exact row (hJ _ _ _ _ _ _ h.2 H locs lsM hl ok le vl ⟨Or.inl hv, vs.2.2⟩ hS hF)
    · exact h.elim
  · exact h.elim
/-- the months' row, that nobody writes -/
def s_gets : ES := fun _ _ nx ls st M nc ns => ∀ a, nx ls (.inr (.inr (.inr (.inr (60, a)))) :: st) M nc ns
theorem r_gets (X : Cx p l g σ R s m args meth c own) {index : Nat} (hd : decode (gcc σ) pc = .ok (.getstatic index, 3)) (hlk : Cond.fieldLink own index "CalendarSync$Days" "MONTH_START" "[I" ∈ e_good) (hn : pc + 3 = np) : RowOk p l e g σ R s m args below meth c ex M0 Q pc np s_gets := by
  intro J hJ ls st M nc ns h
  subst hn
  intro H locs lsM hl ok le vl vs hS hF
  have hG := X.2.2.2.2.2.2.1
  exact va_gets X.1 X.2.1 hG.2.2.2.2.2.2.2.1 hF X.2.2.2.2.1 (e_wd0 hG hlk) (fun _ h9 => h9) hd (hJ _ _ _ _ _ _ (h (gM g)) H locs lsM hl ok le vl ⟨Or.inr (Or.inl ⟨rfl, rfl⟩), vs⟩ hS hF)
def s_ialdM : ES := fun _ _ nx ls st M nc ns => match st with
  | .inl i :: .inr (.inr (.inr (.inr q))) :: r => match Nat.beq q.1 60 with
    | true => vp_in i 13 ∧ nx ls (.inl (e_month i.toNatClampNeg) :: r) M nc ns
    | false => False
  | _ => False
theorem r_ialdM (X : Cx p l g σ R s m args meth c own) (hd : decode (gcc σ) pc = .ok (.iaload, 1)) (hn : pc + 1 = np) : RowOk p l e g σ R s m args below meth c ex M0 Q pc np s_ialdM := by
  intro J hJ ls st M nc ns h
  subst hn
  unfold s_ialdM at h
  split at h
  · split at h
    · rename_i i q r x hq
      intro H locs lsM hl ok le vl vs hS hF
      have hq2 : q.1 = 60 := Nat.eq_of_beq_eq_true hq
      have hv : q.2 = gM g := by
        rcases vs.2.1 with ⟨h8, h9⟩ | h9
        · exfalso
          have := (ok _ h8).1
          rw [h9, hq2] at this
          exact this rfl
        · rcases h9 with ⟨-, h9⟩ | ⟨h9, -, -⟩ | ⟨h9, -, -⟩ | h9
          · exact h9
          · have h9' : 200 ≤ q.1 := h9
            omega
          · have h9' : 300 ≤ q.1 := h9
            omega
          · have h9' : q.1 = 399 := h9
            omega
      have hG := X.2.2.2.2.2.2.1
      have row := va_ti (p := p) (l := l) (e := e) (R := R) (m := m) (meth := meth) (locs := locs) (args := args) (below := below) (cells := nc) (slots := ns) (Q := vx_MQ below (e_Qc g ex M0 Q) (e_XC g ex M0 Q) args s (gmc σ) (gms σ) (eA g)) (ls := lsM) (rest := r.map e_tv) X.1 X.2.1 hG.2.2.2.2.2.2.2.2.1 hF h.1 rfl hd (hJ _ _ _ _ _ _ h.2 H locs lsM hl ok le vl ⟨trivial, vs.2.2⟩ hS hF)
      rw [← hv] at row
      exact row
    · exact h.elim
  · exact h.elim
end RM
