/-! THE ENGINE, 13 (p36): calls that make nothing are paid nothing; byte arrays of any length; texts that are objects. -/
/-- the cells keep their sizes -/
def e_szs (H H' : Heap) : Prop := ∀ (a : Nat) (c : Cell), H[a]? = some c → ∃ c' : Cell, H'[a]? = some c' ∧ c'.slots.size = c.slots.size
theorem e_szs_map {H H' : Heap} (hz : H'.size = H.size) (h : e_szs H H') : H'.toList.map (fun c => c.slots.size) = H.toList.map (fun c => c.slots.size) := by
  apply List.ext_getElem?
  intro i
  rw [List.getElem?_map, List.getElem?_map, Array.getElem?_toList, Array.getElem?_toList]
  cases hc : H[i]? with
  | none =>
    have h1 : H.size ≤ i := Array.getElem?_eq_none_iff.mp hc
    rw [Array.getElem?_eq_none_iff.mpr (by omega)]
  | some c =>
    obtain ⟨c', h1, h2⟩ := h i c hc
    rw [h1]
    simp only [Option.map_some, h2]
theorem stand_narrow {p : Program} {l : Launch} {e : Env} {R : Room} {s : State} {m : MethodId} {args : Array Value} {below : List Frame} {meth : Method} {c : Code} {T T' : State} {locs locs' : List Loc} {cells slots cells' slots' : Nat}
    (X : Stand p l e R s m args below meth c T locs cells slots) (X' : Stand p l e R s m args below meth c T' locs' cells' slots') (hz : T'.heap.size = T.heap.size) (hs : e_szs T.heap T'.heap) : Stand p l e R s m args below meth c T' locs' cells slots := by
  have e1 : (T'.setVm s.vm).heap = T'.heap := rfl
  have e2 : (T.setVm s.vm).heap = T.heap := rfl
  have a3 := X.same.2.2.1
  have a5 := X.same.2.2.2.2.1
  have b1 := X'.same
  refine { X' with same := ⟨b1.1, b1.2.1, ?_, b1.2.2.2.1, ?_, b1.2.2.2.2.2⟩ }
  · rw [e1, hz, ← e2]; exact a3
  · rw [e1, List.map_drop, e_szs_map hz hs, ← List.map_drop, ← e2]; exact a5
theorem vx_Met.sz {l : Launch} {y : MethodName} {ws : List Cond} {rm : Room} {Pc : Array Value → State → Prop} {Qc : Array Value → State → Outcome → State → Prop} {XC : String → State → State → Prop} {mc ms : Nat} {free : Addr → Prop}
    (h : vx_Met l y ws rm Pc Qc XC mc ms free) : vx_Met l y ws rm Pc (fun a st o t => Qc a st o t ∧ e_szs st.heap t.heap) XC mc ms free := by
  intro p e ha hc hkk s m args below hf happ hp hK
  obtain ⟨n, o, h1, h2, h3, h4⟩ := h p e ha hc hkk s m args below hf happ hp hK
  refine ⟨n, o, h1, h2, h3, ?_⟩
  rcases h4 with ⟨hq, L, hF, hL⟩ | hx
  · refine Or.inl ⟨⟨hq, fun a c hc => ?_⟩, L, hF, hL⟩
    obtain ⟨c', d1, -, d3, -⟩ := hF.2.2.2.2.2.2.2 a c hc
    exact ⟨c', d1, d3⟩
  · exact Or.inr hx
section RZ
variable {p : Program} {l : Launch} {e : Env} {g : EG} {σ : SG} {R : Room} {s : State} {m : MethodId} {args : Array Value} {below : List Frame} {meth : Method} {c : Code} {ex : Option Nat} {M0 : EM} {Q : EO → EM → Prop} {own : String} {pc np : Nat}
/-- behind a call that made nothing: what it might have cost is not paid -/
def e_aft0 (M : EM) (nx : EK) (ls : List (Option EV)) (r : List EV) (nc ns : Nat) : EO → EM → Prop := fun o M' => match o with
  | .inl none => mN M' = mN M ∧ nx ls r M' nc ns
  | .inl (some v) => mN M' = mN M ∧ nx ls (v :: r) M' nc ns
  | .inr _ => False
theorem e_after0 (X : Cx p l g σ R s m args meth c own) {τ : SG} (hct : gct τ = false) {av r : List EV} {M : EM} {J : Nat → EK} {nc ns : Nat} {ls : List (Option EV)} (hJ : ∀ t ls st M nc ns, J t ls st M nc ns → Run p l e g σ R s m args below meth c ex M0 Q t ls st M nc ns) {H : Heap} {locs : List Loc} {lsM : Array Slot} {st0 : List Value} {aa : Array Value} (hl : lv_has lsM (gml σ) (e_asc 0 ls)) (le : e_le ex M0 M) (vl : e_allL g M ls) (vr : e_all g M r) (hS : e_St g M H) (hF : va_S (eA g) s.heap H locs)
    (hr : vx_Run p l e R s m args below meth c H locs nc ns (gmc τ) (gms τ) (F0 m pc lsM st0) (r.map e_tv) (fun st o t => e_Qc g (e_ex τ av) M (e_aft0 M (J (pc + 3)) ls r nc ns) aa st o t ∧ e_szs st.heap t.heap) (e_XC g (e_ex τ av) M (e_aft0 M (J (pc + 3)) ls r nc ns)) (eA g)) :
    W p l e R s m args below meth c H locs nc ns (vx_MQ below (e_Qc g ex M0 Q) (e_XC g ex M0 Q) args s (gmc σ) (gms σ) (eA g)) (F0 m pc lsM st0) := by
  have he : e_ex τ av = none := by unfold e_ex; rw [hct]; rfl
  rw [he] at hr
  intro T hT X1
  rcases hr T hT X1 with ⟨v, st₀, t, T', L, h0, X', hL, e1, e2, ⟨⟨v', M', hv, q1, q2, q3, q4, q5, q6⟩, hsz⟩, st⟩ | ⟨q, st₀, t, T', L, E, ce, h0, X', hL, e1, e2, ⟨M', q1, q2, q3, q4, q6⟩, hce, hcv, hcl, st⟩
  · cases hv
    obtain ⟨-, -, k3⟩ := vx_keep h0 e1 hF (fun _ _ h => h) (fun _ h => h) hL q4
    have hN : mN M' = mN M := by
      cases v' with
      | none => exact q6.1
      | some v => exact q6.1
    have hsz' : e_szs T.heap T'.heap := by rw [hT, e1, ← h0]; exact hsz
    have hz : T'.heap.size = T.heap.size := by rw [e1, q3.1, hN, hT, hS.1]
    have X'' := stand_narrow X1 X' hz hsz'
    have S' : e_St g M' T'.heap := by rw [e1]; exact q3
    cases v' with
    | none =>
      obtain ⟨t2, a1, b1⟩ := hJ _ _ _ _ _ _ q6.2 T'.heap (locs ++ L) lsM hl q1 (le.tr q2) (vl.le q2) (vr.le q2) S' k3 T' rfl X''
      exact ⟨t2, st t2 a1, b1⟩
    | some v =>
      obtain ⟨t2, a1, b1⟩ := hJ _ _ _ _ _ _ q6.2 T'.heap (locs ++ L) lsM hl q1 (le.tr q2) (vl.le q2) ⟨q5, vr.le q2⟩ S' k3 T' rfl X''
      exact ⟨t2, st t2 a1, b1⟩
  · exact q6.elim
/-- a static call; a virtual call: both return, make nothing; the room is a side -/
def s_callS0 (l : Launch) (g : EG) (σ τ : SG) : ES := fun _ _ nx ls st M nc ns => e_pop (gnp τ) [] st (fun av r => match Nat.ble (e_wt r) 8 with
  | true => (nc + gmc τ ≤ gmc σ ∧ ns + gms τ ≤ gms σ) ∧ Ct l g τ av M (e_aft0 M nx ls r nc ns)
  | false => False)
def s_callV0 (l : Launch) (g : EG) (σ τ : SG) (ci : Nat) : ES := fun _ _ nx ls st M nc ns => e_pop (gnp τ + 1) [] st (fun av r => match Nat.ble (e_wt r) 8 with
  | true => match av with
    | .inr (.inr (.inr (.inr q))) :: _ => match e_isO q.1 ci with
      | true => (nc + gmc τ ≤ gmc σ ∧ ns + gms τ ≤ gms σ) ∧ Ct l g τ av M (e_aft0 M nx ls r nc ns)
      | false => False
    | _ => False
  | false => False)
theorem e_wt8 {r : List EV} (h : Nat.ble (e_wt r) 8 = true) : ((r.map e_tv).map fun v => v.category).sum ≤ 8 := Nat.le_trans e_wt_le (Nat.le_of_ble_eq_true h)
theorem r_callS0 (X : Cx p l g σ R s m args meth c own) {τ : SG} {index : Nat} (hd : decode (gcc σ) pc = .ok (.invokestatic index, 3)) (hlk : Cond.methodLink own index (gy τ) ∈ e_good) (hst : Cond.static (gy τ) ∈ e_good) (hc : e_cs τ) (hct : gct τ = false) (hR : e_fits τ σ) (hn : pc + 3 = np) : RowOk p l e g σ R s m args below meth c ex M0 Q pc np (s_callS0 l g σ τ) := by
  intro J hJ ls st M nc ns h
  subst hn
  unfold s_callS0 at h
  obtain ⟨av, r, rfl, hlen, h⟩ := e_pop_inv h
  rw [List.append_nil] at h
  intro H locs lsM hl ok le vl vs hS hF
  obtain ⟨va0, vr⟩ := e_all_app vs
  have va := e_all_rev va0
  split at h
  · rename_i hrm
    have hR' := X.2.2.2.2.2.2.2.1
    exact e_after0 X hct hJ hl le vl vr hS hF (vx_runS (e_fix X) ((h.2 ok va).sz) ⟨e_callB X hc hlk hR, e_wd0 X.2.2.2.2.2.2.1 hst⟩ (e_pre X hS hF (av.map e_tv)) rfl (by simp [hlen]) (by rw [← X.2.2.2.1]; exact hl.1.trans X.2.2.2.1.symm) (by simp) (lv_room (e_wt8 hrm)) hd ⟨by rw [hR']; exact h.1.1, by rw [hR']; exact h.1.2⟩)
  · exact h.elim
theorem r_callV0 (X : Cx p l g σ R s m args meth c own) {τ : SG} {index : Nat} {ci : Nat} (hd : decode (gcc σ) pc = .ok (.invokevirtual index, 3)) (hci : ci < 12) (hC : (gy τ).cls = e_cR ci) (hlk : Cond.methodLink own index (gy τ) ∈ e_good) (hin : Cond.instanceMethod (gy τ) ∈ e_good) (hse : Cond.selects (gy τ).cls (gy τ) (gy τ) ∈ e_good) (hc : e_cs τ) (hct : gct τ = false) (hR : e_fits τ σ) (hn : pc + 3 = np) : RowOk p l e g σ R s m args below meth c ex M0 Q pc np (s_callV0 l g σ τ ci) := by
  intro J hJ ls st M nc ns h
  subst hn
  unfold s_callV0 at h
  obtain ⟨av, r, rfl, hlen, h⟩ := e_pop_inv h
  rw [List.append_nil] at h
  intro H locs lsM hl ok le vl vs hS hF
  obtain ⟨va0, vr⟩ := e_all_app vs
  have va := e_all_rev va0
  split at h
  · rename_i hrm
    have hR' := X.2.2.2.2.2.2.2.1
    split at h
    · rename_i q av' hz
      split at h
      · rename_i hq
        exact e_after0 X hct hJ hl le vl vr hS hF (vx_runV (b := q.2) (As := av'.map e_tv) (e_fix X) ((h.2 ok va).sz) ⟨e_callB X hc hlk hR, e_wd0 X.2.2.2.2.2.2.1 hin, e_wd0 X.2.2.2.2.2.2.1 hse⟩ (e_preV X hci hC (e_isO_kd hq) va.1 hS hF (av'.map e_tv)) rfl (by simpa using hlen) (by rw [← X.2.2.2.1]; exact hl.1.trans X.2.2.2.1.symm) (by simp [e_tv]) (lv_room (e_wt8 hrm)) hd ⟨by rw [hR']; exact h.1.1, by rw [hR']; exact h.1.2⟩)
      · exact h.elim
    · exact h.elim
  · exact h.elim
def s_dup_x1 : ES := fun _ _ nx ls st M nc ns => match st with
  | v :: w :: r => match e_c1 v, e_c1 w with
    | true, true => nx ls (v :: w :: v :: r) M nc ns
    | _, _ => False
  | _ => False
theorem r_dup_x1 (X : Cx p l g σ R s m args meth c own) (hd : decode (gcc σ) pc = .ok (.dup_x1, 1)) (hn : pc + 1 = np) : RowOk p l e g σ R s m args below meth c ex M0 Q pc np s_dup_x1 := by
  intro J hJ ls st M nc ns h
  subst hn
  unfold s_dup_x1 at h
  split at h
  · split at h
    · rename_i v w r hc hc2
      intro H locs lsM hl ok le vl vs hS hF
      exact lv_dup_x1 X.1 X.2.1 hd (e_c1_cat hc) (e_c1_cat hc2) (hJ _ _ _ _ _ _ h H locs lsM hl ok le vl ⟨vs.1, vs.2.1, vs.1, vs.2.2⟩ hS hF)
    · exact h.elim
  · exact h.elim
def s_ifnn (t : Nat) : ES := fun _ J _ ls st M nc ns => match st with
  | .inr (.inr (.inr (.inr _))) :: r => J t ls r M nc ns
  | _ => False
theorem r_ifnn (X : Cx p l g σ R s m args meth c own) {off : Int} {t : Nat} (hd : decode (gcc σ) pc = .ok (.ifnonnull off, 3)) (ht : (pc : Int) + off = (t : Int)) : RowOk p l e g σ R s m args below meth c ex M0 Q pc np (s_ifnn t) := by
  intro J hJ ls st M nc ns h
  unfold s_ifnn at h
  split at h
  · intro H locs lsM hl ok le vl vs hS hF
    exact lv_ifnonnull X.1 X.2.1 hd ht (hJ _ _ _ _ _ _ h H locs lsM hl ok le vl vs.2 hS hF)
  · exact h.elim
theorem r_aretA (X : Cx p l g σ R s m args meth c own) (hd : decode (gcc σ) pc = .ok (.areturn, 1)) {C : FieldType} (hr : grt σ = some (.array C)) : RowOk p l e g σ R s m args below meth c ex M0 Q pc np s_aret := by
  intro J hJ ls st M nc ns h
  unfold s_aret at h
  split at h
  · intro H locs lsM hl ok le vl vs hS hF
    refine W.widen (h).1 (h).2.1 (vx_ret ?_)
    exact W.aret X.1 X.2.1 (X.2.2.1.trans hr) (Or.inr ⟨_, rfl⟩) (Or.inr ⟨_, rfl⟩) (fun t ht hW => ⟨some (.inr (.inr (.inr (.inr _)))), M, rfl, ok, le, by rw [ht]; exact hS, hF.F ht, vs.1, (h).2.2⟩) hF.2.2 hd X.2.2.2.2.2.1
  · exact h.elim
/-- a text constant, at its own address -/
def s_strG (g : EG) (k : Nat) : ES := fun _ _ nx ls st M nc ns => nx ls (.inr (.inr (.inr (.inr (200 + k, gS g k)))) :: st) M nc ns
theorem r_strG (X : Cx p l g σ R s m args meth c own) {k is : Nat} {x : String × Nat × String} (hd : decode (gcc σ) pc = .ok (.ldc is, 2)) (hx : e_txt[k]? = some x) (hxx : (x.1 = own ∧ x.2.1 = is) ∧ k < 35) (hn : pc + 2 = np) : RowOk p l e g σ R s m args below meth c ex M0 Q pc np (s_strG g k) := by
  intro J hJ ls st M nc ns h
  subst hn
  obtain ⟨⟨rfl, rfl⟩, hk⟩ := hxx
  intro H locs lsM hl ok le vl vs hS hF
  have hG := X.2.2.2.2.2.2.1
  exact va_ldcS X.1 X.2.1 X.2.2.2.2.1 (hG.2.2.2.2.2.2.2.2.2.1 k x hx) hd (hJ _ _ _ _ _ _ h H locs lsM hl ok le vl ⟨Or.inr (Or.inr (Or.inl ⟨Nat.le_add_right _ _, by show 200 + k < 261; omega, by show gS g k = gS g (200 + k - 200); rw [Nat.add_sub_cancel_left]⟩)), vs⟩ hS hF)
end RZ
section RB
variable {p : Program} {l : Launch} {e : Env} {g : EG} {σ : SG} {R : Room} {s : State} {m : MethodId} {args : Array Value} {below : List Frame} {meth : Method} {c : Code} {ex : Option Nat} {M0 : EM} {Q : EO → EM → Prop} {own : String} {pc np : Nat}
theorem e_aN_b (n : Nat) : e_aN (2000 + n) 1 = some n := by
  unfold e_aN
  rw [e_kd_b]
  rfl
theorem e_pf_b (n k : Nat) : e_pf (2000 + n) k = none := by
  unfold e_pf
  split <;> first | omega | rfl
theorem e_pt_b (n k : Nat) : e_pt (2000 + n) k = 0 := by
  unfold e_pt
  split <;> first | omega | rfl
/-- a new byte array of any length -/
def s_newaD (σ : SG) : ES := fun _ _ nx ls st M nc ns => match st with
  | .inl v :: r => ∃ n, (v = nI n ∧ n < 100000) ∧ (nc + 1 ≤ gmc σ ∧ ns + n ≤ gms σ) ∧ nx ls (.inr (.inr (.inr (.inr (2000 + n, mN M)))) :: r) (sNew M (2000 + n)) (nc + 1) (ns + n)
  | _ => False
theorem r_newaD (X : Cx p l g σ R s m args meth c own) (hd : decode (gcc σ) pc = .ok (.newarray .byte, 2)) (harr : Cond.arrayClass .byte ∈ e_good) (hn : pc + 2 = np) : RowOk p l e g σ R s m args below meth c ex M0 Q pc np (s_newaD σ) := by
  intro J hJ ls st M nc ns h
  unfold s_newaD at h
  split at h
  · rename_i v r
    obtain ⟨n, ⟨h1, h2⟩, ⟨h3, h4⟩, h⟩ := h
    refine r_newa (t := 2000 + n) (n := n) X (ai := 1) (ty := .byte) hd (e_kd_b n) (e_pf_b n) rfl (Or.inr (Or.inl ⟨rfl, rfl⟩)) harr (by show n * 1 ≤ 536870912; omega) (by omega) hn J hJ ls _ M nc ns ?_
    show (match Nat.ble (nc + 1) (gmc σ) && Nat.ble (ns + n) (gms σ) with
      | true => (v = nI n) ∧ J np ls (.inr (.inr (.inr (.inr (2000 + n, mN M)))) :: r) (sNew M (2000 + n)) (nc + 1) (ns + n)
      | false => False)
    rw [Nat.ble_eq_true_of_le h3, Nat.ble_eq_true_of_le h4]
    exact ⟨h1, h⟩
  · exact h.elim
/-- the length of a byte array, its own one or a constant text's -/
def s_alenE : ES := fun _ _ nx ls st M nc ns => match st with
  | .inr (.inr (.inr (.inr q))) :: r => (∃ n, q.1 = 2000 + n ∧ nx ls (.inl (nI n) :: r) M nc ns) ∨ ((300 ≤ q.1 ∧ q.1 ≤ 334) ∧ nx ls (.inl (nI (e_len.getD (q.1 - 300) 0)) :: r) M nc ns)
  | _ => False
theorem r_alenE (X : Cx p l g σ R s m args meth c own) (hd : decode (gcc σ) pc = .ok (.arraylength, 1)) (hn : pc + 1 = np) : RowOk p l e g σ R s m args below meth c ex M0 Q pc np s_alenE := by
  intro J hJ ls st M nc ns h
  unfold s_alenE at h
  split at h
  · rename_i q r
    rcases h with ⟨n, hq, h⟩ | h
    · subst hn
      intro H locs lsM hl ok le vl vs hS hF
      have hkd : e_kd q.1 = some (.inr (1, n)) := by rw [hq]; exact e_kd_b n
      obtain ⟨hm, ht⟩ := e_vok_in vs.1 hkd
      obtain ⟨k0, hk0⟩ := e_wd_get (g := g) hm
      rw [e_ent_a ht hkd] at hk0
      exact va_alen (D := gD g) X.1 X.2.1 X.2.2.2.2.2.2.1.1 hS.2.1 k0 1 hk0 rfl (v := nI n) rfl hd (hJ _ _ _ _ _ _ h H locs lsM hl ok le vl ⟨trivial, vs.2⟩ hS hF)
    · exact r_tlen X hd hn J hJ ls _ M nc ns h
  · exact h.elim
/-- a byte, of its own array or a constant text's -/
def s_baldE : ES := fun _ _ nx ls st M nc ns => match st with
  | .inl i :: .inr (.inr (.inr (.inr q))) :: r => (∃ n, q.1 = 2000 + n ∧ vp_in i n ∧ nx ls (.inl (mI M q.2 i.toNatClampNeg) :: r) M nc ns) ∨ (((300 ≤ q.1 ∧ q.1 ≤ 334) ∧ vp_in i (e_len.getD (q.1 - 300) 0)) ∧ nx ls (.inl ((e_byt.getD (q.1 - 300) []).getD i.toNatClampNeg 0) :: r) M nc ns)
  | _ => False
theorem r_baldE (X : Cx p l g σ R s m args meth c own) (hd : decode (gcc σ) pc = .ok (.baload, 1)) (hn : pc + 1 = np) : RowOk p l e g σ R s m args below meth c ex M0 Q pc np s_baldE := by
  intro J hJ ls st M nc ns h
  unfold s_baldE at h
  split at h
  · rename_i i q r
    rcases h with ⟨n, hq, hi, h⟩ | h
    · refine r_bald X hd hn J hJ ls _ M nc ns ?_
      show (match e_aN q.1 1 with
        | some n => vp_in i n ∧ J np ls (.inl (mI M q.2 i.toNatClampNeg) :: r) M nc ns
        | none => False)
      rw [hq, e_aN_b]
      exact ⟨hi, h⟩
    · exact r_tbald X hd hn J hJ ls _ M nc ns h
  · exact h.elim
def s_bastD : ES := fun _ _ nx ls st M nc ns => match st with
  | .inl v :: .inl i :: .inr (.inr (.inr (.inr q))) :: r => ∃ n, q.1 = 2000 + n ∧ vp_in i n ∧ nx ls r (sI M q.2 i.toNatClampNeg (vp_nar .byte v)) nc ns
  | _ => False
theorem r_bastD (X : Cx p l g σ R s m args meth c own) (hd : decode (gcc σ) pc = .ok (.bastore, 1)) (hn : pc + 1 = np) : RowOk p l e g σ R s m args below meth c ex M0 Q pc np s_bastD := by
  intro J hJ ls st M nc ns h
  unfold s_bastD at h
  split at h
  · rename_i v i q r
    obtain ⟨n, hq, hi, h⟩ := h
    refine r_bast X hd hn J hJ ls _ M nc ns ?_
    show (match e_aN q.1 1 with
      | some n => vp_in i n ∧ J np ls r (sI M q.2 i.toNatClampNeg (vp_nar .byte v)) nc ns
      | none => False)
    rw [hq, e_aN_b]
    exact ⟨hi, h⟩
  · exact h.elim
/-- the JDK's digits -/
def s_getsD (g : EG) (k : Nat) : ES := fun _ _ nx ls st M nc ns => nx ls (.inr (.inr (.inr (.inr (200 + k, gS g k)))) :: st) M nc ns
theorem r_getsT (X : Cx p l g σ R s m args meth c own) {index : Nat} (hd : decode (gcc σ) pc = .ok (.getstatic index, 3)) (hlk : Cond.fieldLink own index "java/lang/Integer" "DigitTens" "[B" ∈ e_good) (hn : pc + 3 = np) : RowOk p l e g σ R s m args below meth c ex M0 Q pc np (s_getsD g 58) := by
  intro J hJ ls st M nc ns h
  subst hn
  intro H locs lsM hl ok le vl vs hS hF
  have hG := X.2.2.2.2.2.2.1
  exact va_gets X.1 X.2.1 hG.2.2.2.2.2.2.2.2.2.2.2.2.2.2.2.1.1 hF X.2.2.2.2.1 (e_wd0 hG hlk) (fun _ h9 => h9) hd (hJ _ _ _ _ _ _ h H locs lsM hl ok le vl ⟨Or.inr (Or.inr (Or.inl ⟨Nat.le_add_right _ _, by show 200 + 58 < 261; omega, by show gS g 58 = gS g (200 + 58 - 200); rw [Nat.add_sub_cancel_left]⟩)), vs⟩ hS hF)
theorem r_getsO (X : Cx p l g σ R s m args meth c own) {index : Nat} (hd : decode (gcc σ) pc = .ok (.getstatic index, 3)) (hlk : Cond.fieldLink own index "java/lang/Integer" "DigitOnes" "[B" ∈ e_good) (hn : pc + 3 = np) : RowOk p l e g σ R s m args below meth c ex M0 Q pc np (s_getsD g 59) := by
  intro J hJ ls st M nc ns h
  subst hn
  intro H locs lsM hl ok le vl vs hS hF
  have hG := X.2.2.2.2.2.2.1
  exact va_gets X.1 X.2.1 hG.2.2.2.2.2.2.2.2.2.2.2.2.2.2.2.2.1 hF X.2.2.2.2.1 (e_wd0 hG hlk) (fun _ h9 => h9) hd (hJ _ _ _ _ _ _ h H locs lsM hl ok le vl ⟨Or.inr (Or.inr (Or.inl ⟨Nat.le_add_right _ _, by show 200 + 59 < 261; omega, by show gS g 59 = gS g (200 + 59 - 200); rw [Nat.add_sub_cancel_left]⟩)), vs⟩ hS hF)
def s_dbald (g : EG) : ES := fun _ _ nx ls st M nc ns => match st with
  | .inl i :: .inr (.inr (.inr (.inr q))) :: r => vp_in i 100 ∧ ((q = (258, gS g 58) ∧ nx ls (.inl (e_tens i.toNatClampNeg) :: r) M nc ns) ∨ (q = (259, gS g 59) ∧ nx ls (.inl (e_ones i.toNatClampNeg) :: r) M nc ns))
  | _ => False
theorem r_dbald (X : Cx p l g σ R s m args meth c own) (hd : decode (gcc σ) pc = .ok (.baload, 1)) (hn : pc + 1 = np) : RowOk p l e g σ R s m args below meth c ex M0 Q pc np (s_dbald g) := by
  intro J hJ ls st M nc ns h
  subst hn
  unfold s_dbald at h
  split at h
  · rename_i i q r
    obtain ⟨hi, h⟩ := h
    intro H locs lsM hl ok le vl vs hS hF
    have hG := X.2.2.2.2.2.2.1
    rcases h with ⟨rfl, h⟩ | ⟨rfl, h⟩
    · exact va_tb X.1 X.2.1 hG.2.2.2.2.2.2.2.2.2.2.2.2.2.2.2.1.2 hF hi rfl hd (hJ _ _ _ _ _ _ h H locs lsM hl ok le vl ⟨trivial, vs.2.2⟩ hS hF)
    · exact va_tb X.1 X.2.1 hG.2.2.2.2.2.2.2.2.2.2.2.2.2.2.2.2.2.1 hF hi rfl hd (hJ _ _ _ _ _ _ h H locs lsM hl ok le vl ⟨trivial, vs.2.2⟩ hS hF)
  · exact h.elim
/-- the bytes that an object holds (a text 56, a builder 57) -/
def e_isV (M : EM) (q : Nat × Nat) (b n : Nat) : Prop := (q.1 = 56 ∨ q.1 = 57) ∧ mP M q.2 0 = some b ∧ b ∈ mA M ∧ mT M b = 2000 + n
theorem r_getV (X : Cx p l g σ R s m args meth c own) {index ci : Nat} (hci : ci = 10 ∨ ci = 11) {J : Nat → EK} (hJ : ∀ t ls st M nc ns, J t ls st M nc ns → Run p l e g σ R s m args below meth c ex M0 Q t ls st M nc ns) (hd : decode (gcc σ) pc = .ok (.getfield index, 3)) (hlk : Cond.fieldLink own index (e_cF ci 0).1 (e_cF ci 0).2.1 (e_cF ci 0).2.2.1 ∈ e_good) {ls : List (Option EV)} {r : List EV} {M : EM} {nc ns : Nat} {q : Nat × Nat} (hq : e_isO q.1 ci = true) {b n : Nat} (hv : e_isV M q b n)
    (h : J (pc + 3) ls (.inr (.inr (.inr (.inr (2000 + n, b)))) :: r) M nc ns) : Run p l e g σ R s m args below meth c ex M0 Q pc ls (.inr (.inr (.inr (.inr q))) :: r) M nc ns := by
  intro H locs lsM hl ok le vl vs hS hF
  obtain ⟨hm, ht⟩ := e_vok_in vs.1 (e_isO_kd hq)
  obtain ⟨k0, hk0⟩ := e_wd_get (g := g) hm
  rw [e_ent_o ht (e_isO_kd hq)] at hk0
  have h12 : ci < 12 := by omega
  have hk : 0 < e_cN ci := by rcases hci with rfl | rfl <;> decide
  have hty : e_isR (e_cT ci 0) = true := by rcases hci with rfl | rfl <;> rfl
  exact va_get (D := gD g) (C := e_cR ci) (T := e_cF ci) (N := e_cN ci) X.1 X.2.1 (fun w hw => e_wd0 X.2.2.2.2.2.2.1 hw) (e_cl_ws ci h12) X.2.2.2.2.1 X.2.2.2.2.2.2.1.1 hS.2.1 k0 hk0 (e_cl_at ci h12) 0 hk (e_wd0 X.2.2.2.2.2.2.1 hlk) (fun _ h9 => h9) (v := .ref b) (by rw [e_get hk, e_fv_R hty, hv.2.1]; rfl) hd (hJ _ _ _ _ _ _ h H locs lsM hl ok le vl ⟨Or.inl ⟨hv.2.2.1, hv.2.2.2⟩, vs.2⟩ hS hF)
/-- a builder's bytes -/
def s_getVB : ES := fun _ _ nx ls st M nc ns => match st with
  | .inr (.inr (.inr (.inr q))) :: r => ∃ b n, (q.1 = 57 ∧ e_isV M q b n) ∧ nx ls (.inr (.inr (.inr (.inr (2000 + n, b)))) :: r) M nc ns
  | _ => False
theorem r_getVB (X : Cx p l g σ R s m args meth c own) {index : Nat} (hd : decode (gcc σ) pc = .ok (.getfield index, 3)) (hlk : Cond.fieldLink own index "java/lang/AbstractStringBuilder" "value" "[B" ∈ e_good) (hn : pc + 3 = np) : RowOk p l e g σ R s m args below meth c ex M0 Q pc np s_getVB := by
  intro J hJ ls st M nc ns h
  subst hn
  unfold s_getVB at h
  split at h
  · rename_i q r
    obtain ⟨b, n, ⟨hq, hv⟩, h⟩ := h
    exact r_getV X (ci := 10) (Or.inl rfl) hJ hd hlk (by rw [hq]; rfl) hv h
  · exact h.elim
/-- a text's bytes: a constant's or an object's -/
def s_getVE : ES := fun _ _ nx ls st M nc ns => match st with
  | .inr (.inr (.inr (.inr q))) :: r => (∃ b n, (q.1 = 56 ∧ e_isV M q b n) ∧ nx ls (.inr (.inr (.inr (.inr (2000 + n, b)))) :: r) M nc ns) ∨ ((200 ≤ q.1 ∧ q.1 ≤ 234) ∧ ∀ a, nx ls (.inr (.inr (.inr (.inr (q.1 + 100, a)))) :: r) M nc ns)
  | _ => False
theorem r_getVE (X : Cx p l g σ R s m args meth c own) {index : Nat} (hd : decode (gcc σ) pc = .ok (.getfield index, 3)) (hlk : Cond.fieldLink own index "java/lang/String" "value" "[B" ∈ e_good) (hn : pc + 3 = np) : RowOk p l e g σ R s m args below meth c ex M0 Q pc np s_getVE := by
  intro J hJ ls st M nc ns h
  unfold s_getVE at h
  split at h
  · rename_i q r
    rcases h with ⟨b, n, ⟨hq, hv⟩, h⟩ | h
    · subst hn
      exact r_getV X (ci := 11) (Or.inr rfl) hJ hd hlk (by rw [hq]; rfl) hv h
    · exact r_tval X hd hlk hn J hJ ls _ M nc ns h
  · exact h.elim
/-- a text's coder -/
def s_tcodE : ES := fun _ _ nx ls st M nc ns => match st with
  | .inr (.inr (.inr (.inr q))) :: r => (q.1 = 56 ∧ nx ls (.inl (mI M q.2 1) :: r) M nc ns) ∨ ((200 ≤ q.1 ∧ q.1 ≤ 234) ∧ nx ls (.inl 0 :: r) M nc ns)
  | _ => False
theorem r_tcodE (X : Cx p l g σ R s m args meth c own) {index : Nat} (hd : decode (gcc σ) pc = .ok (.getfield index, 3)) (hlk : Cond.fieldLink own index "java/lang/String" "coder" "B" ∈ e_good) (hn : pc + 3 = np) : RowOk p l e g σ R s m args below meth c ex M0 Q pc np s_tcodE := by
  intro J hJ ls st M nc ns h
  unfold s_tcodE at h
  split at h
  · rename_i q r
    rcases h with ⟨hq, h⟩ | h
    · refine r_getI X (ci := 11) (k := 1) hd (by decide) (by decide) rfl hlk hn J hJ ls _ M nc ns ?_
      show (match e_isO q.1 11 with
        | true => J np ls (.inl (mI M q.2 1) :: r) M nc ns
        | false => False)
      rw [hq]
      exact h
    · exact r_tcod X hd hlk hn J hJ ls _ M nc ns h
  · exact h.elim
/-- the bytes go into a builder or a new text -/
def s_putV (ci : Nat) : ES := fun _ _ nx ls st M nc ns => match st with
  | .inr (.inr (.inr (.inr v))) :: .inr (.inr (.inr (.inr q))) :: r => (∃ n, v.1 = 2000 + n) ∧ q.1 = 67 - ci ∧ nx ls r (sP M q.2 0 v.2) nc ns
  | _ => False
theorem r_putV (X : Cx p l g σ R s m args meth c own) {index ci : Nat} (hd : decode (gcc σ) pc = .ok (.putfield index, 3)) (hci : ci = 10 ∨ ci = 11) (hfin : (e_cF ci 0).2.2.2 = false ∨ ((e_cF ci 0).2.2.2 = true ∧ (gy σ).name = "<init>" ∧ (e_cF ci 0).1 = own)) (hlk : Cond.fieldLink own index (e_cF ci 0).1 (e_cF ci 0).2.1 (e_cF ci 0).2.2.1 ∈ e_good) (hn : pc + 3 = np) : RowOk p l e g σ R s m args below meth c ex M0 Q pc np (s_putV ci) := by
  intro J hJ ls st M nc ns h
  subst hn
  unfold s_putV at h
  split at h
  · rename_i v q r
    obtain ⟨⟨n, hv⟩, hq7, h⟩ := h
    have hq : e_isO q.1 ci = true := by rw [hq7]; rcases hci with rfl | rfl <;> rfl
    intro H locs lsM hl ok le vl vs hS hF
    have h12 : ci < 12 := by omega
    have hk : 0 < e_cN ci := by rcases hci with rfl | rfl <;> decide
    have hty : e_isR (e_cT ci 0) = true := by rcases hci with rfl | rfl <;> rfl
    have hkv : e_kd v.1 = some (.inr (1, n)) := by rw [hv]; exact e_kd_b n
    obtain ⟨hm, ht⟩ := e_vok_in vs.2.1 (e_isO_kd hq)
    obtain ⟨hmv, htv⟩ := e_vok_in vs.1 hkv
    obtain ⟨f1, f2⟩ := e_fit_R (a := v.2) hty
    have hini : (e_cF ci 0).2.2.2 = false ∨ ((e_cF ci 0).2.2.2 = true ∧ meth.name = "<init>" ∧ (e_cF ci 0).1 = own) := by
      rw [X.2.2.2.2.2.2.2.2.2.1]; exact hfin
    have hp9 : e_pt q.1 0 = 999 ∧ e_pf q.1 0 = none := by rw [hq7]; rcases hci with rfl | rfl <;> exact ⟨rfl, rfl⟩
    have ok1 : e_ok (sP M q.2 0 v.2) := e_ok_sP ok (Or.inl (by rw [ht]; exact hp9.1)) (by rw [ht]; exact hp9.2)
    refine m_put X hd h12 hk hini hlk hm ht (e_isO_kd hq) (v := .ref v.2) (M' := sP M q.2 0 v.2) f1 f2 rfl rfl (fun b hb => e_ent_sP hb) ?_ hS hF (fun H1 locs1 hS1 hF1 => hJ _ _ _ _ _ _ h H1 locs1 lsM hl ok1 le (e_allL.le (M := M) (M' := sP M q.2 0 v.2) (fun _ h9 _ => ⟨h9, rfl⟩) vl) (e_all.le (M := M) (M' := sP M q.2 0 v.2) (fun _ h9 _ => ⟨h9, rfl⟩) vs.2.2) hS1 hF1)
    rw [e_ent_o (M := sP M q.2 0 v.2) (t := q.1) ht (e_isO_kd hq)]
    congr 2
    refine (e_lset (fun j hj hne => ?_) ?_).symm
    · unfold e_fv
      have : mP (sP M q.2 0 v.2) q.2 j = mP M q.2 j := by simp [mP, sP, e_up, hne]
      cases e_cT ci j <;> first | rfl | rw [this]
    · rw [e_fv_R hty]; simp [mP, sP, e_up, va_rf]
  · exact h.elim
end RB
