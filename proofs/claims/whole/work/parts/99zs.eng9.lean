/-! THE ENGINE, 10: new objects, new arrays, constructors; tags that change. -/
theorem mT_sNew {M : EM} {t b : Nat} (h : ¬ b = mN M) : mT (sNew M t) b = mT M b := by show va_up M.1 (mN M) t b = _; unfold va_up; rw [if_neg h]; rfl
theorem mT_sNew_e {M : EM} {t : Nat} : mT (sNew M t) (mN M) = t := by show va_up M.1 (mN M) t (mN M) = _; unfold va_up; rw [if_pos rfl]
theorem mI_sNew {M : EM} {t b j : Nat} : mI (sNew M t) b j = if b = mN M then 0 else mI M b j := by show e_uprow _ _ _ b j = _; unfold e_uprow; rfl
theorem mL_sNew {M : EM} {t b j : Nat} : mL (sNew M t) b j = if b = mN M then 0 else mL M b j := by show e_uprow _ _ _ b j = _; unfold e_uprow; rfl
theorem mP_sNew {M : EM} {t b j : Nat} : mP (sNew M t) b j = if b = mN M then none else mP M b j := by show e_uprow _ _ _ b j = _; unfold e_uprow; rfl
theorem mN_sNew {M : EM} {t : Nat} : mN (sNew M t) = mN M + 1 := rfl
theorem mA_sNew {M : EM} {t : Nat} : mA (sNew M t) = mA M ++ [mN M] := rfl
theorem e_ent_sNew {g : EG} {M : EM} {t b : Nat} (h : ¬ b = mN M) : e_ent g (sNew M t) b = e_ent g M b := e_ent_cong (mT_sNew h) (funext fun j => by rw [mI_sNew, if_neg h]) (funext fun j => by rw [mL_sNew, if_neg h]) (funext fun j => by rw [mP_sNew, if_neg h])
theorem e_wd_sNew {g : EG} {M : EM} {t : Nat} (hl : ∀ b ∈ mA M, b < mN M) : e_wd g (sNew M t) = e_wd g M ++ [(mN M, e_ent g (sNew M t) (mN M))] := by
  unfold e_wd va_pl
  rw [mA_sNew, List.map_append]
  congr 1
  apply List.map_congr_left
  intro b hb
  rw [e_ent_sNew (by have := hl b hb; omega)]
theorem e_St_lt {g : EG} {M : EM} {H : Heap} (hS : e_St g M H) : ∀ b ∈ mA M, b < mN M := fun b hb => by
  obtain ⟨k, hk⟩ := e_wd_get (g := g) hb
  rw [← hS.1]
  exact (hS.2.1 k _ hk).lt
theorem e_ok_sNew {M : EM} {t : Nat} (h : e_ok M) (hl : ∀ b ∈ mA M, b < mN M) (hk : e_kd t ≠ none) (hp : ∀ k, e_pf t k = none) : e_ok (sNew M t) := by
  intro a ha
  rw [mA_sNew] at ha
  rcases List.mem_append.mp ha with ha | ha
  · have hn : ¬ a = mN M := by have := hl a ha; omega
    obtain ⟨h1, h2, h3⟩ := h a ha
    rw [mT_sNew hn]
    refine ⟨h1, fun k q hq => ?_, fun k off hf => ?_⟩
    · rw [mP_sNew, if_neg hn] at hq
      obtain ⟨q1, q2⟩ := h2 k q hq
      exact ⟨List.mem_append_left _ q1, by rw [mT_sNew (by have := hl q q1; omega)]; exact q2⟩
    · rw [mP_sNew, if_neg hn]; exact h3 k off hf
  · rw [List.mem_singleton.mp ha, mT_sNew_e]
    refine ⟨hk, fun k q hq => ?_, fun k off hf => ?_⟩
    · rw [mP_sNew, if_pos rfl] at hq; cases hq
    · rw [hp k] at hf; cases hf
theorem e_le_sNew {M : EM} {t : Nat} (hl : ∀ b ∈ mA M, b < mN M) : e_le none M (sNew M t) := fun b hb _ => ⟨List.mem_append_left _ hb, mT_sNew (by have := hl b hb; omega)⟩
/-- a field of these types is born as the memory says -/
def e_isS : FieldType → Bool
  | .float => false
  | .double => false
  | _ => true
theorem e_fv_new {M : EM} {t k : Nat} : ∀ {ty : FieldType}, e_isS ty = true → e_fv (sNew M t) ty (mN M) k = defaultValue ty := by
  intro ty h
  have h1 : mI (sNew M t) (mN M) k = 0 := by rw [mI_sNew, if_pos rfl]
  have h2 : mL (sNew M t) (mN M) k = 0 := by rw [mL_sNew, if_pos rfl]
  have h3 : mP (sNew M t) (mN M) k = none := by rw [mP_sNew, if_pos rfl]
  cases ty <;> first | (cases h; done) | (unfold e_fv; simp only [h1, h2, h3]; rfl)
theorem e_cT_s : ∀ ci, ci < 11 → ∀ k, k < e_cN ci → e_isS (e_cT ci k) = true := by
  intro ci hc
  rcases (show ci = 0 ∨ ci = 1 ∨ ci = 2 ∨ ci = 3 ∨ ci = 4 ∨ ci = 5 ∨ ci = 6 ∨ ci = 7 ∨ ci = 8 ∨ ci = 9 ∨ ci = 10 by omega) with rfl | rfl | rfl | rfl | rfl | rfl | rfl | rfl | rfl | rfl | rfl <;> decide
section RN
variable {p : Program} {l : Launch} {e : Env} {g : EG} {σ : SG} {R : Room} {s : State} {m : MethodId} {args : Array Value} {below : List Frame} {meth : Method} {c : Code} {ex : Option Nat} {M0 : EM} {Q : EO → EM → Prop} {own : String} {pc np : Nat}
/-- the world behind a new cell -/
theorem e_St_new {M : EM} {H H1 : Heap} {t : Nat} (hz : gZ g ≤ mN M) (hS : e_St g M H) (z1 : H1.size = mN M + 1) (o1 : ∀ q : Nat, q < mN M → H1[q]? = H[q]?) (hn : va_at (gD g) vwCl (mN M, e_ent g (sNew M t) (mN M)) H1) : e_St g (sNew M t) H1 := by
  have hl := e_St_lt hS
  refine ⟨z1, ?_, ?_⟩
  · rw [e_wd_sNew hl]
    refine (hS.2.1.kept (fun k q hk => o1 q.1 (by rw [← hS.1]; exact (hS.2.1 k q hk).lt))).app (fun k x hx => ?_)
    have hz : k < 1 := (List.getElem?_eq_some_iff.mp hx).1
    rw [show k = 0 by omega] at hx
    cases hx
    exact hn
  · rw [e_wd_sNew hl]
    exact hS.2.2.push hS.2.1 hS.1.symm hz
theorem va_S_new {H0 H H1 : Heap} {locs : List Loc} {n : Nat} {A : Nat → Prop} (hF : va_S A H0 H locs) (hn : H.size = n) (z1 : H1.size = n + 1) (o1 : ∀ q : Nat, q < n → H1[q]? = H[q]?) : va_S A H0 H1 locs := ⟨by have := hF.1; omega, fun x h1 h2 => (o1 x (by have := hF.1; omega)).trans (hF.2.1 x h1 h2), hF.2.2⟩
/-- a new object -/
def s_new (σ : SG) (ci t : Nat) : ES := fun _ _ nx ls st M nc ns => match Nat.ble (nc + 1) (gmc σ) && Nat.ble (ns + e_cN ci) (gms σ) with
  | true => nx ls (.inr (.inr (.inr (.inr (t, mN M)))) :: st) (sNew M t) (nc + 1) (ns + e_cN ci)
  | false => False
theorem r_new (X : Cx p l g σ R s m args meth c own) {index ci t : Nat} (hd : decode (gcc σ) pc = .ok (.new index, 3)) (hci : ci < 11) (hk : e_kd t = some (.inl ci)) (hpf : ∀ k, e_pf t k = none) (hcl : Cond.classLink own index (e_cR ci) ∈ e_good) (hins : Cond.instantiable (e_cR ci) (e_cN ci) ∈ e_good) (hini : Cond.initialized (e_cR ci) ∈ e_good) (hws : ∀ w ∈ u_ws (e_cR ci) (e_cF ci) (e_cN ci), w ∈ e_good) (hn : pc + 3 = np) : RowOk p l e g σ R s m args below meth c ex M0 Q pc np (s_new σ ci t) := by
  intro J hJ ls st M nc ns h
  subst hn
  unfold s_new at h
  split at h
  · rename_i hb
    simp only [Bool.and_eq_true] at hb
    have hb1 := Nat.le_of_ble_eq_true hb.1
    have hb2 := Nat.le_of_ble_eq_true hb.2
    intro H locs lsM hl ok le vl vs hS hF
    have hG := X.2.2.2.2.2.2.1
    have hRR := X.2.2.2.2.2.2.2.1
    have hKn := hG.1.1 ci _ (e_cl_at ci hci)
    have hlt := e_St_lt hS
    have e1c : (grm σ).cells = gmc σ := rfl
    have e1s : (grm σ).slots = gms σ := rfl
    have hz : gZ g ≤ mN M := Nat.le_trans hG.2.2.2.2.1 (by rw [← hS.1]; exact hF.1)
    refine W.newcK (n := e_cN ci) X.1 X.2.1 X.2.2.2.2.1 (e_wd0 hG hcl) (e_wd0 hG hins) (e_wd0 hG hini) rfl hd (by rw [hRR]; omega) (by rw [hRR]; omega) hKn.2.1 hS.1 (fun H1 kC hkC e1 z1 o1 => ?_)
    have hn : va_at (gD g) vwCl (mN M, e_ent g (sNew M t) (mN M)) H1 := by
      rw [e_ent_o mT_sNew_e hk]
      refine ⟨_, e_cl_at ci hci, (u_born (args := args) (e_cT ci) (fun w hw => e_wd0 hG (hws w hw)) (fun w hw => hw) hKn hkC e1 (e_cl_ty ci hci)).to (fun j hj => ?_)⟩
      have hj' : j < e_cN ci := hj
      show _ = vp_V _ j
      unfold vp_V
      rw [List.getD_eq_getElem?_getD, List.getElem?_map, List.getElem?_range hj']
      exact (e_fv_new (e_cT_s ci hci j hj')).symm
    have le1 := e_le_sNew (t := t) hlt
    exact hJ _ _ _ _ _ _ h H1 locs lsM hl (e_ok_sNew ok hlt (by rw [hk]; exact fun z => by cases z) hpf) (le.tr le1) (vl.le le1) ⟨Or.inl ⟨List.mem_append_right _ (List.mem_singleton.mpr rfl), mT_sNew_e⟩, vs.le le1⟩ (e_St_new hz hS z1 o1 hn) (va_S_new hF hS.1 z1 o1)
  · exact h.elim
/-- the row of a new array -/
theorem e_arr_new {M : EM} {t ai : Nat} {n : Nat} {ty : FieldType} {c : ClassId} (h : (ai = 0 ∧ ty = .int) ∨ (ai = 1 ∧ ty = .byte) ∨ (ai = 2 ∧ ty = .boolean) ∨ (ai = 3 ∧ ty = .long) ∨ (ai = 4 ∧ ty = .double)) : vp_cell c (n, e_arr (sNew M t) (mN M) ai) = arrV c n (fun _ => defaultValue ty) := by
  have h1 : mI (sNew M t) (mN M) = fun _ => 0 := funext fun k => by rw [mI_sNew, if_pos rfl]
  have h2 : mL (sNew M t) (mN M) = fun _ => 0 := funext fun k => by rw [mL_sNew, if_pos rfl]
  rcases h with ⟨rfl, rfl⟩ | ⟨rfl, rfl⟩ | ⟨rfl, rfl⟩ | ⟨rfl, rfl⟩ | ⟨rfl, rfl⟩ <;> (unfold e_arr; first | rw [h1] | rw [h2] | simp only [h2]) <;> rfl
def s_newa (σ : SG) (t n : Nat) : ES := fun _ _ nx ls st M nc ns => match st with
  | .inl v :: r => match Nat.ble (nc + 1) (gmc σ) && Nat.ble (ns + n) (gms σ) with
    | true => (v = nI n) ∧ nx ls (.inr (.inr (.inr (.inr (t, mN M)))) :: r) (sNew M t) (nc + 1) (ns + n)
    | false => False
  | _ => False
theorem r_newa (X : Cx p l g σ R s m args meth c own) {atype : ArrayType} {ai t n : Nat} {ty : FieldType} (hd : decode (gcc σ) pc = .ok (.newarray atype, 2)) (hk : e_kd t = some (.inr (ai, n))) (hpf : ∀ k, e_pf t k = none) (hty : newarray.typeOf atype = ty) (hai : (ai = 0 ∧ ty = .int) ∨ (ai = 1 ∧ ty = .byte) ∨ (ai = 2 ∧ ty = .boolean) ∨ (ai = 3 ∧ ty = .long) ∨ (ai = 4 ∧ ty = .double)) (harr : Cond.arrayClass ty ∈ e_good) (hby : n * componentBytes ty ≤ 536870912) (hn31 : n < 2147483648) (hn : pc + 2 = np) : RowOk p l e g σ R s m args below meth c ex M0 Q pc np (s_newa σ t n) := by
  intro J hJ ls st M nc ns h
  subst hn
  subst hty
  unfold s_newa at h
  split at h
  · rename_i v r
    split at h
    · rename_i hb
      obtain ⟨rfl, h⟩ := h
      simp only [Bool.and_eq_true] at hb
      have hb1 := Nat.le_of_ble_eq_true hb.1
      have hb2 := Nat.le_of_ble_eq_true hb.2
      intro H locs lsM hl ok le vl vs hS hF
      have hG := X.2.2.2.2.2.2.1
      have hRR := X.2.2.2.2.2.2.2.1
      have hlt := e_St_lt hS
      have e1c : (grm σ).cells = gmc σ := rfl
      have e1s : (grm σ).slots = gms σ := rfl
      have hz : gZ g ≤ mN M := Nat.le_trans hG.2.2.2.2.1 (by rw [← hS.1]; exact hF.1)
      have hts : (e_tys g)[ai]? = some (gC g ai, newarray.typeOf atype) := by
        rcases hai with ⟨rfl, z⟩ | ⟨rfl, z⟩ | ⟨rfl, z⟩ | ⟨rfl, z⟩ | ⟨rfl, z⟩ <;> rw [z] <;> rfl
      have hra : s.vm.findClass ("[" ++ (newarray.typeOf atype).toString) = some (gC g ai) := by
        have q := (hG.1.2 ai _ hts).2
        rcases hai with ⟨-, z⟩ | ⟨-, z⟩ | ⟨-, z⟩ | ⟨-, z⟩ | ⟨-, z⟩ <;> (simp only [z] at q ⊢; exact q)
      refine va_newaK (N := n) X.1 X.2.1 (e_wd0 hG harr) rfl hd rfl (nI_nlt (by omega)) (nI_clamp (by omega)) hby (by rw [hRR]; omega) (by rw [hRR]; omega) hS.1 (fun H1 cA e1 z1 o1 hAr hNm => ?_)
      have hcA : cA = gC g ai := Option.some.inj (hNm.symm.trans hra)
      have hn : va_at (gD g) vwCl (mN M, e_ent g (sNew M t) (mN M)) H1 := by
        rw [e_ent_a mT_sNew_e hk]
        show H1[mN M]? = some (vp_cell _ _)
        rw [e_arr_new hai, e1, hcA]
      have le1 := e_le_sNew (t := t) hlt
      exact hJ _ _ _ _ _ _ h H1 locs lsM hl (e_ok_sNew ok hlt (by rw [hk]; exact fun z => by cases z) hpf) (le.tr le1) (vl.le le1) ⟨Or.inl ⟨List.mem_append_right _ (List.mem_singleton.mpr rfl), mT_sNew_e⟩, vs.2.le le1⟩ (e_St_new hz hS z1 o1 hn) (va_S_new hF hS.1 z1 o1)
    · exact h.elim
  · exact h.elim
/-- a new array of references -/
theorem r_anewa (X : Cx p l g σ R s m args meth c own) {index ai t n : Nat} {C : String} (hd : decode (gcc σ) pc = .ok (.anewarray index, 3)) (hk : e_kd t = some (.inr (ai, n))) (hpf : ∀ k, e_pf t k = none) (hai : 5 ≤ ai ∧ ai < 9) (hC : ∀ g : EG, (e_tys g)[ai]? = some (gC g ai, .object C)) (hao : C ∈ e_ao) (hcl : Cond.classLink own index C ∈ e_good) (hn31 : n < 1000) (hn : pc + 3 = np) : RowOk p l e g σ R s m args below meth c ex M0 Q pc np (s_newa σ t n) := by
  intro J hJ ls st M nc ns h
  subst hn
  unfold s_newa at h
  split at h
  · rename_i v r
    split at h
    · rename_i hb
      obtain ⟨rfl, h⟩ := h
      simp only [Bool.and_eq_true] at hb
      have hb1 := Nat.le_of_ble_eq_true hb.1
      have hb2 := Nat.le_of_ble_eq_true hb.2
      intro H locs lsM hl ok le vl vs hS hF
      have hG := X.2.2.2.2.2.2.1
      have hRR := X.2.2.2.2.2.2.2.1
      have hlt := e_St_lt hS
      have e1c : (grm σ).cells = gmc σ := rfl
      have e1s : (grm σ).slots = gms σ := rfl
      have hz : gZ g ≤ mN M := Nat.le_trans hG.2.2.2.2.1 (by rw [← hS.1]; exact hF.1)
      obtain ⟨_, _, _, _, _, hra⟩ := (hG.1.2 ai _ (hC g)).2
      have cl : (nI n).toNatClampNeg = n := nI_clamp (by omega)
      have hao' : va_AO C s := hG.2.2.2.2.2.2.2.2.2.2.2.2 C hao
      refine W.anew X.1 X.2.1 X.2.2.2.2.1 (e_wd0 hG hcl) hao'.use rfl hd rfl (nI_nlt (by omega)) (by rw [cl]; omega) (by rw [hRR]; omega) (by rw [cl, hRR]; omega) (fun cA kA comp f1 f2 f3 f4 => ?_)
      rw [cl]
      have hcA : cA = gC g ai := Option.some.inj (f1.symm.trans hra)
      generalize hH1 : H.push ({ cls := cA, slots := Array.replicate n .null, vm := .none } : Cell) = H1
      have z1 : H1.size = mN M + 1 := by rw [← hH1, Array.size_push, hS.1]
      have e1 : H1[mN M]? = some (arrV cA n (fun _ => .null)) := by rw [← hH1, ← hS.1, Array.getElem?_push_size, ← arrV_new]
      have o1 : ∀ q : Nat, q < mN M → H1[q]? = H[q]? := fun q hq => by rw [← hH1, Array.getElem?_push, if_neg (by rw [hS.1]; omega)]
      have hn : va_at (gD g) vwCl (mN M, e_ent g (sNew M t) (mN M)) H1 := by
        rw [e_ent_a mT_sNew_e hk]
        show H1[mN M]? = some (vp_cell _ _)
        rw [e_arrR hai.1, e1, hcA]
        have h3 : mP (sNew M t) (mN M) = fun _ => none := funext fun k => by rw [mP_sNew, if_pos rfl]
        rw [h3]
        rfl
      have le1 := e_le_sNew (t := t) hlt
      rw [hS.1]
      exact hJ _ _ _ _ _ _ h H1 locs lsM hl (e_ok_sNew ok hlt (by rw [hk]; exact fun z => by cases z) hpf) (le.tr le1) (vl.le le1) ⟨Or.inl ⟨List.mem_append_right _ (List.mem_singleton.mpr rfl), mT_sNew_e⟩, vs.2.le le1⟩ (e_St_new hz hS z1 o1 hn) (va_S_new hF hS.1 z1 o1)
    · exact h.elim
  · exact h.elim
/-- a reference goes into an array that is being made -/
def e_aC : Nat → Option (Nat × Nat)
  | 106 => some (3, 5) | 108 => some (8, 6) | 115 => some (2, 8) | 120 => some (12, 7) | 121 => some (2, 7) | _ => none
def s_aast : ES := fun _ _ nx ls st M nc ns => match st with
  | .inr (.inr (.inr (.inr v))) :: .inl i :: .inr (.inr (.inr (.inr q))) :: r => match e_aC q.1, Nat.beq v.1 (e_pt q.1 0) with
    | some n, true => vp_in i n.1 ∧ nx ls r (sP M q.2 i.toNatClampNeg v.2) nc ns
    | _, _ => False
  | _ => False
theorem e_aC_kd {t : Nat} {q : Nat × Nat} (h : e_aC t = some q) : e_kd t = some (.inr (q.2, q.1)) ∧ (∀ j, e_pf t j = none) ∧ (∀ j, e_pt t j = e_pt t 0) ∧ ∃ ci, ci < 11 ∧ e_kd (e_pt t 0) = some (.inl ci) ∧ ∀ g : EG, (e_tys g)[q.2]? = some (gC g q.2, .object (e_cR ci)) := by
  unfold e_aC at h
  split at h
  · cases h; exact ⟨rfl, fun _ => rfl, fun _ => rfl, 8, by decide, rfl, fun _ => rfl⟩
  · cases h; exact ⟨rfl, fun _ => rfl, fun _ => rfl, 1, by decide, rfl, fun _ => rfl⟩
  · cases h; exact ⟨rfl, fun _ => rfl, fun _ => rfl, 6, by decide, rfl, fun _ => rfl⟩
  · cases h; exact ⟨rfl, fun _ => rfl, fun _ => rfl, 2, by decide, rfl, fun _ => rfl⟩
  · cases h; exact ⟨rfl, fun _ => rfl, fun _ => rfl, 2, by decide, rfl, fun _ => rfl⟩
  · cases h
theorem r_aast (X : Cx p l g σ R s m args meth c own) (hd : decode (gcc σ) pc = .ok (.aastore, 1)) (hn : pc + 1 = np) : RowOk p l e g σ R s m args below meth c ex M0 Q pc np s_aast := by
  intro J hJ ls st M nc ns h
  subst hn
  unfold s_aast at h
  split at h
  · split at h
    · rename_i v i q r x y n hq hv
      intro H locs lsM hl ok le vl vs hS hF
      have hG := X.2.2.2.2.2.2.1
      obtain ⟨hkd, hpf, hpt, ci, hci, hkv, hty⟩ := e_aC_kd hq
      have hv1 := Nat.eq_of_beq_eq_true hv
      obtain ⟨hm, ht⟩ := e_vok_in vs.2.2.1 hkd
      obtain ⟨hmv, htv⟩ := e_vok_in vs.1 (by rw [hv1]; exact hkv)
      obtain ⟨k0, hk0⟩ := e_wd_get (g := g) hm
      have hk1 := hk0
      have h5 : 5 ≤ n.2 := by
        unfold e_aC at hq
        split at hq <;> first | (cases hq; done) | (cases hq; decide)
      rw [e_ent_a ht hkd, e_arrR h5] at hk0
      obtain ⟨k2, hk2⟩ := e_wd_get (g := g) hmv
      rw [e_ent_o (htv.trans hv1) hkv] at hk2
      have ok1 : e_ok (sP M q.2 i.toNatClampNeg v.2) := e_ok_sP ok ⟨hmv, by rw [ht, htv, hpt]; exact hv1⟩ (by rw [ht]; exact hpf _)
      have le1 : e_le none M (sP M q.2 i.toNatClampNeg v.2) := fun _ h9 _ => ⟨h9, rfl⟩
      have ee : e_ent g (sP M q.2 i.toNatClampNeg v.2) q.2 = .inl (gC g n.2, n.1, .inr (.inr (.inr (.inr (va_up (mP M q.2) i.toNatClampNeg (some v.2)))))) := by
        rw [e_ent_a (M := sP M q.2 i.toNatClampNeg v.2) ht hkd, e_arrR h5]
        congr 6
        funext j
        show e_up _ _ _ _ q.2 j = va_up _ _ _ j
        unfold e_up va_up
        rw [if_pos rfl]
        rfl
      have ws := e_wd_set (M' := sP M q.2 i.toNatClampNeg v.2) hS.2.2 hm hk1 rfl (fun b hb => e_ent_sP hb)
      rw [ee] at ws
      refine va_astq X.1 X.2.1 hG.1 hS.2.1 hS.2.2 hF k0 n.2 k2 ci hk0 (hty g) hk2 (e_cl_at ci hci) h.1 hd (fun H1 locs1 hP1 hD1 hF1 => ?_)
      rw [ws] at hP1 hD1
      have sz : H1.size = mN M := sorry
      exact hJ _ _ _ _ _ _ h.2 H1 locs1 lsM hl ok1 le (vl.le le1) (vs.2.2.2.le le1) ⟨sz, hP1, hD1⟩ hF1
    · exact h.elim
  · exact h.elim
/-- a constructor is called -/
def s_callI (l : Launch) (g : EG) (σ τ : SG) : ES := fun ret _ nx ls st M nc ns => match st with
  | .inr (.inr (.inr (.inr q))) :: r => match e_rm τ σ r nc ns with
    | true => Ct l g τ [.inr (.inr (.inr (.inr q)))] M (e_aft τ ret nx ls r nc ns)
    | false => False
  | _ => False
theorem r_callIN (X : Cx p l g σ R s m args meth c own) (hh : ghh σ = []) {τ : SG} {index : Nat} {host : String} (hd : decode (gcc σ) pc = .ok (.invokespecial index, 3)) (hlk : Cond.methodLinkNest own index (gy τ) host ∈ e_nest) (hin : Cond.instanceMethod (gy τ) ∈ e_good) (hc : e_cs τ) (hct : gct τ = false) (hret : grt τ = none) (hnm : (gy τ).name = "<init>") (hnp : gnp τ = 0) (hR : e_fits τ σ) (hn : pc + 3 = np) : RowOk p l e g σ R s m args below meth c ex M0 Q pc np (s_callI l g σ τ) := by
  intro J hJ ls st M nc ns h
  subst hn
  unfold s_callI at h
  split at h
  · rename_i q r
    intro H locs lsM hl ok le vl vs hS hF
    split at h
    · rename_i hrm
      obtain ⟨w1, w2, w3⟩ := e_rm_t hrm
      have hR' := X.2.2.2.2.2.2.2.1
      have cn := e_callN X hc hlk hR
      rw [hret] at cn
      exact e_after X hh hct hJ hl le vl vs.2 hF (vx_runIN (b := q.2) (As := []) (e_fix X) (h ok ⟨vs.1, trivial⟩) ⟨cn, hnm, e_wd0 X.2.2.2.2.2.2.1 hin⟩ (e_pre X hS hF [.ref q.2]) rfl (by rw [hnp]; rfl) (by rw [← X.2.2.2.1]; exact hl.1.trans X.2.2.2.1.symm) rfl (lv_room w1) hd ⟨by rw [hR']; exact w2, by rw [hR']; exact w3⟩)
    · exact h.elim
  · exact h.elim
theorem r_callI (X : Cx p l g σ R s m args meth c own) (hh : ghh σ = []) {τ : SG} {index : Nat} (hd : decode (gcc σ) pc = .ok (.invokespecial index, 3)) (hlk : Cond.methodLink own index (gy τ) ∈ e_good) (hin : Cond.instanceMethod (gy τ) ∈ e_good) (hc : e_cs τ) (hct : gct τ = false) (hret : grt τ = none) (hnm : (gy τ).name = "<init>") (hnp : gnp τ = 0) (hR : e_fits τ σ) (hn : pc + 3 = np) : RowOk p l e g σ R s m args below meth c ex M0 Q pc np (s_callI l g σ τ) := by
  intro J hJ ls st M nc ns h
  subst hn
  unfold s_callI at h
  split at h
  · rename_i q r
    intro H locs lsM hl ok le vl vs hS hF
    split at h
    · rename_i hrm
      obtain ⟨w1, w2, w3⟩ := e_rm_t hrm
      have hR' := X.2.2.2.2.2.2.2.1
      have cn := e_callB X hc hlk hR
      rw [hret] at cn
      exact e_after X hh hct hJ hl le vl vs.2 hF (vx_runI (b := q.2) (As := []) (e_fix X) (h ok ⟨vs.1, trivial⟩) ⟨cn, hnm, e_wd0 X.2.2.2.2.2.2.1 hin⟩ (e_pre X hS hF [.ref q.2]) rfl (by rw [hnp]; rfl) (by rw [← X.2.2.2.1]; exact hl.1.trans X.2.2.2.1.symm) rfl (lv_room w1) hd ⟨by rw [hR']; exact w2, by rw [hR']; exact w3⟩)
    · exact h.elim
  · exact h.elim
end RN
/-- tags may change, where the heap stays -/
def e_gh (g : EG) (ex : Option Nat) (M0 : EM) (K : Nat → EK) : Prop := ∀ t ls ls' st st' M M' nc ns, M'.2 = M.2 → (∀ b, e_kd (mT M' b) = e_kd (mT M b)) → e_asc 0 ls' = e_asc 0 ls → st'.map e_tv = st.map e_tv → ((∀ b ∈ mA M, b < mN M) → e_ok M → e_le ex M0 M → e_allL g M ls → e_all g M st → e_ok M' ∧ e_le ex M0 M' ∧ e_allL g M' ls' ∧ e_all g M' st') → K t ls' st' M' nc ns → K t ls st M nc ns
/-- what holds at every place -/
def e_kn (g : EG) (ex : Option Nat) (M0 : EM) (K : Nat → EK) : Prop := ∀ t ls st M nc ns, ((∀ b ∈ mA M, b < mN M) → e_ok M → e_le ex M0 M → e_allL g M ls → e_all g M st → K t ls st M nc ns) → K t ls st M nc ns
theorem sem_ofG {l : Launch} {g : EG} {σ : SG} {own : String} {prog : List (Nat × ES)} {av : List EV} {M : EM} {Q : EO → EM → Prop} (hl0 : l.stackTraces = false) (hm : e_mt σ own) (hp : e_okp l g σ own prog) (hw : Nat.ble (e_wt av) (gml σ) = true)
    (body : ∀ K : Nat → EK, e_clo prog (e_ret σ Q) K → e_wk K → e_gh g (e_ex σ av) M K → e_kn g (e_ex σ av) M K → K 0 (e_l0 (gml σ) av) [] M 0 0) : Ct l g σ av M Q := by
  intro ok hv
  obtain ⟨hcls, hpl, hhh⟩ := hm
  have hwd : gwd σ = Cond.code (gy σ) (gcc σ) (gml σ) (grt σ) := by unfold gwd; rw [hhh]
  refine vx_ofW (cc := gcc σ) (maxL := gml σ) (ret := grt σ) (ws' := []) hpl (by unfold gws; rw [hwd]) ?_
  intro p e s m args below meth c s₁ B hml hex hPc
  obtain ⟨rfl, hG, hS⟩ := hPc
  have X : Cx p l g σ (headSpec (gws σ) (grm σ)).room s m ((av.map e_tv).toArray) meth c own := by
    refine ⟨B.exec, B.bytes, B.returns, hml, ?_, B.notSynchronized, hG, rfl, hl0, (name_of_methodNamed B.named B.method).1, ?_⟩
    · rw [← hcls]; exact findClass_of_methodNamed B.named
    · rw [hhh]
      cases ht : c.exceptionTable.toList with
      | nil => rfl
      | cons x r => exact (hex x (by rw [ht]; exact List.mem_cons_self)).elim
  have hb := body (fun t ls st M' nc ns => Run p l e g σ (headSpec (gws σ) (grm σ)).room s m ((av.map e_tv).toArray) below meth c (e_ex σ av) M Q t ls st M' nc ns) (e_each_mono (fun pc np f h => h) (hp p e _ s m _ below meth c (e_ex σ av) M Q X)) ?_ ?_ ?_
  · have hlen : (lg_sl (av.map e_tv)).length ≤ gml σ := Nat.le_trans e_sl_le (Nat.le_of_ble_eq_true hw)
    have hl := lv_entry (av.map e_tv) (n := gml σ) hlen
    rw [lg_entry_eq]
    exact hb s.heap [] _ (e_has_sub hl (fun q hq => e_l0_in hq)) ok e_le.rf (e_l0_all hv) trivial hS va_S.rf
  · intro t ls ls' st M' nc ns hsub h H locs lsM hl ok le vl vs hS hF
    exact h H locs lsM (e_has_sub hl (fun q hq => e_asc_sub hsub hq)) ok le (e_allL_sub hsub vl) vs hS hF
  · intro t ls ls' st st' M1 M2 nc ns h2 hk hls hst hc h H locs lsM hl ok le vl vs hS hF
    have hlt := e_St_lt hS
    obtain ⟨ok', le', vl', vs'⟩ := hc hlt ok le vl vs
    have hN : mN M2 = mN M1 := congrArg (fun z => z.2.2.2.1) h2
    have hI : mI M2 = mI M1 := congrArg (fun z => z.1) h2
    have hL : mL M2 = mL M1 := congrArg (fun z => z.2.1) h2
    have hP : mP M2 = mP M1 := congrArg (fun z => z.2.2.1) h2
    have hA : mA M2 = mA M1 := congrArg (fun z => z.2.2.2.2) h2
    have he : ∀ b, e_ent g M2 b = e_ent g M1 b := fun b => by
      unfold e_ent
      rw [hk b]
      cases e_kd (mT M1 b) with
      | none => rfl
      | some q =>
        cases q with
        | inl ci =>
          simp only [Sum.inr.injEq, Prod.mk.injEq, true_and]
          apply List.map_congr_left
          intro k _
          unfold e_fv
          rw [hI, hL, hP]
        | inr q =>
          simp only [Sum.inl.injEq, Prod.mk.injEq, true_and]
          unfold e_arr
          rw [hI, hL, hP]
    have hwd2 : e_wd g M2 = e_wd g M1 := by
      unfold e_wd
      rw [hA]
      exact va_pl_congr he
    have hS2 : e_St g M2 H := ⟨hS.1.trans hN.symm, by rw [hwd2]; exact hS.2.1, by rw [hwd2]; exact hS.2.2⟩
    have r := h H locs lsM (by rw [hls]; exact hl) ok' le' vl' vs' hS2 hF
    rw [hst] at r
    exact r
  · intro t ls st M1 nc ns h H locs lsM hl ok le vl vs hS hF
    exact h (e_St_lt hS) ok le vl vs H locs lsM hl ok le vl vs hS hF
